/** Boundary cases of sections 1 to 4 of the description: one method for each sentence that names one. */
public final class BoundsOfSlotsTest {
    public static void main(String[] args) {
        distanceToItselfAndWithoutAWay();
        setsOfTheHighestNumbers();
        rate0();
        rate1();
        rate99To101();
        rate300();
        shadowGrowth();
        shadowGrowthOfRate0();
        aNewRateCountsFromSlot0();
        lostBeyond500();
        arrivalsComeBeforeTransmission();
        shadowGrowsForLostPackets();
        noPossibleDestination();
        possibleByShadow();
        pressureOfTheGoalIsZero();
        lowestOfSeveralDestinations();
        weightOfNoDifference();
        weightOfANegativeDifference();
        biasWithoutAWay();
        greedyTies();
        exactTies();
        theLastOf14Links();
        onlyWeightsGreaterThan0();
        asManyAsTheCapacity();
        amountsOfShadows();
        shadowsVanishAtTheGoal();
        oneLinkInASlot();
        arrivalsInTheOrderOfLinks();
        delayOfOne();
        loopsFromTheSecondTimeOn();
        budgetOf0();
        budgetOf1();
        budgetOf200();
        deliveredInTheLastSlot();
        aBudgetThatIsOver();
        expiryAnywhereInAQueue();
        countedSinceAdded();
        peakBehindASlot();
        Expect.end("BoundsOfSlotsTest");
    }

    private static PressureNet net(String text) {
        return Expect.net(text);
    }

    // ---- Section 1

    private static void distanceToItselfAndWithoutAWay() {
        PressureNet two = net("net 2");
        Expect.same("no way in 2 nodes", two.hops(0, 1), 2);
        Expect.same("to itself in 2 nodes", two.hops(1, 1), 0);
        StringBuilder line = new StringBuilder("net 10");
        for (int n = 0; n < 9; n++) {
            line.append(";link ").append(n).append(' ').append(n + 1).append(" 1");
        }
        PressureNet ten = net(line.toString());
        Expect.same("the longest way", ten.hops(0, 9), 9);
        Expect.same("no way back", ten.hops(9, 0), 10);
        Expect.same("one link", ten.hops(8, 9), 1);
        Expect.same("to itself", ten.hops(9, 9), 0);
        ten.addLink(0, 9, 1);
        Expect.same("a shorter way", ten.hops(0, 9), 1);
        ten.undo();
        Expect.same("without it", ten.hops(0, 9), 9);
    }

    private static void setsOfTheHighestNumbers() {
        PressureNet net = Twins.wide();
        net.setConflict(13, 12, true);
        Expect.same("link 13", net.conflicts(12), 1 << 13);
        Expect.same("node 9 alone", Expect.net("net 10").cutSide(9, 0), 1 << 9);
        Expect.same("all nodes but one", net.cutSide(9, 8) & 1 << 9, 1 << 9);
        net.setRate(5, 300);
        Expect.same("flow 5", net.overloaded(), 1 << 5);
        PressureNet far = net("net 10;link 9 8 1;flow 9 0 0");
        far.inject(0, 1);
        Expect.same("been at 9", far.packet(9, 0, 0, 3), 1 << 9);
        far.run(1);
        Expect.same("been at 9 and 8", far.packet(8, 0, 0, 3), 1 << 9 | 1 << 8);
    }

    // ---- Sections 2 and 3.1

    private static void rate0() {
        PressureNet net = net("net 2;flow 0 1 0;excess 50");
        for (int i = 0; i < 6; i++) {
            Expect.same("no packets", net.run(50), 0);
        }
        Expect.same("none arrived", net.flow(0, 4), 0);
    }

    private static void rate1() {
        PressureNet net = net("net 2;flow 0 1 1");
        net.run(50);
        Expect.same("99 slots", net.run(49), 0);
        Expect.same("the slot 99", net.run(1), 1);
        Expect.same("it arrived there", net.packet(0, 1, 0, 1), 99);
        net.run(50);
        Expect.same("199 slots", net.run(49), 1);
        Expect.same("the slot 199", net.run(1), 2);
    }

    private static void rate99To101() {
        PressureNet net = net("net 4;flow 0 1 99;flow 1 2 100;flow 2 3 101");
        net.run(1);
        Expect.same("99 in slot 0", net.flow(0, 4), 0);
        Expect.same("100 in slot 0", net.flow(1, 4), 1);
        Expect.same("101 in slot 0", net.flow(2, 4), 1);
        net.run(50);
        net.run(48);
        Expect.same("99 in 99 slots", net.flow(0, 4), 98);
        Expect.same("100 in 99 slots", net.flow(1, 4), 99);
        Expect.same("101 in 99 slots", net.flow(2, 4), 99);
        net.run(1);
        Expect.same("99 in 100 slots", net.flow(0, 4), 99);
        Expect.same("100 in 100 slots", net.flow(1, 4), 100);
        Expect.same("101 in 100 slots", net.flow(2, 4), 101);
    }

    private static void rate300() {
        PressureNet net = net("net 2;flow 0 1 300");
        for (int slot = 1; slot <= 20; slot++) {
            Expect.same("3 in each slot", net.run(1), 3 * slot);
        }
    }

    private static int shadowAfter(String text, int slots) {
        PressureNet net = net(text);
        for (int left = slots; left > 0; left -= 50) {
            net.run(Math.min(50, left));
        }
        return net.shadow(0, 1);
    }

    private static void shadowGrowth() {
        Expect.same("excess 0, 99 slots", shadowAfter("net 2;flow 0 1 1;excess 0", 99), 0);
        Expect.same("excess 0, 100 slots", shadowAfter("net 2;flow 0 1 1;excess 0", 100), 1);
        Expect.same("excess 50, 66 slots", shadowAfter("net 2;flow 0 1 1;excess 50", 66), 0);
        Expect.same("excess 50, 67 slots", shadowAfter("net 2;flow 0 1 1;excess 50", 67), 1);
        Expect.same("excess 10 at first, 90 slots", shadowAfter("net 2;flow 0 1 1", 90), 0);
        Expect.same("excess 10 at first, 91 slots", shadowAfter("net 2;flow 0 1 1", 91), 1);
        Expect.same("rate 300, excess 50, 1 slot", shadowAfter("net 2;flow 0 1 300;excess 50", 1), 4);
        Expect.same("rate 300, excess 50, 2 slots", shadowAfter("net 2;flow 0 1 300;excess 50", 2), 9);
        Expect.same("two flows grow one by one", shadowAfter("net 2;flow 0 1 50;flow 0 1 50;excess 0", 1), 0);
        Expect.same("two flows grow one by one", shadowAfter("net 2;flow 0 1 50;flow 0 1 50;excess 0", 2), 2);
    }

    private static void shadowGrowthOfRate0() {
        Expect.same("rate 0, excess 50", shadowAfter("net 2;flow 0 1 0;excess 50", 100), 0);
    }

    private static void aNewRateCountsFromSlot0() {
        PressureNet net = net("net 2;flow 0 1 1");
        net.run(49);
        net.setRate(0, 2);
        Expect.same("slot 49 is the 50th of the rate 2", net.run(1), 1);
        net.setRate(0, 0);
        Expect.same("slot 50", net.run(1), 1);
        net.setRate(0, 300);
        Expect.same("slot 51", net.run(1), 4);
    }

    private static PressureNet filled(String text, int packets) {
        PressureNet net = net(text);
        for (int left = packets; left > 0; left -= 100) {
            net.inject(0, Math.min(100, left));
        }
        return net;
    }

    private static void lostBeyond500() {
        String text = "net 3;flow 0 1 300;flow 1 2 300";
        int[][] cases = {{494, 0, 0}, {495, 0, 1}, {497, 0, 3}, {498, 1, 3}, {499, 2, 3}, {500, 3, 3}};
        for (int[] c : cases) {
            PressureNet net = filled(text, c[0]);
            Expect.same("500 from " + c[0], net.run(1), 500);
            Expect.same("lost of flow 0", net.flow(0, 5), c[1]);
            Expect.same("lost of flow 1", net.flow(1, 5), c[2]);
            Expect.same("arrived of flow 0", net.flow(0, 4), c[0] + 3);
            Expect.same("arrived of flow 1", net.flow(1, 4), 3);
            Expect.same("queue of flow 0", net.queue(0, 1), c[0] + 3 - c[1]);
            Expect.same("queue of flow 1", net.queue(1, 2), 3 - c[2]);
        }
        PressureNet net = filled(text, 493);
        Expect.same("499 are no full net", net.run(1), 499);
        Expect.same("none is lost", net.flow(0, 5) + net.flow(1, 5), 0);
    }

    private static void arrivalsComeBeforeTransmission() {
        PressureNet net = filled("net 2;link 0 1 5;flow 0 1 300", 500);
        Expect.same("5 go behind the arrivals", net.run(1), 495);
        Expect.same("all 3 are lost", net.flow(0, 5), 3);
        Expect.same("there is room in the next slot", net.run(1), 493);
        Expect.same("none more is lost", net.flow(0, 5), 3);
        PressureNet expiring = filled("net 2;flow 0 1 300 budget 1", 500);
        Expect.same("packets expire behind the arrivals", expiring.run(1), 0);
        Expect.same("all 3 are lost", expiring.flow(0, 5), 3);
        Expect.same("500 expired", expiring.flow(0, 7), 500);
    }

    private static void shadowGrowsForLostPackets() {
        PressureNet net = filled("net 3;flow 0 1 300;flow 1 2 300;excess 0", 500);
        net.run(1);
        Expect.same("shadow of flow 0", net.shadow(0, 1), 3);
        Expect.same("shadow of flow 1", net.shadow(1, 2), 3);
    }

    // ---- Section 3.2

    private static void noPossibleDestination() {
        PressureNet net = net("net 3;link 0 1 5;flow 0 2 0;flow 1 2 0;flow 2 0 0;bias 20");
        net.inject(1, 5);
        net.inject(2, 5);
        Expect.same("all queues of 0 are empty", net.link(0, 4), PressureNet.NONE);
        Expect.same("weight", net.link(0, 5), 0);
        Expect.same("scheduled", net.link(0, 6), 0);
        Expect.same("would carry", net.link(0, 7), 0);
        net.inject(0, 1);
        Expect.same("one packet is enough", net.link(0, 4), 2);
        net.flush(0, 2);
        Expect.same("empty again", net.link(0, 4), PressureNet.NONE);
    }

    private static void possibleByShadow() {
        PressureNet net = net("net 3;link 0 1 1;flow 0 2 100;mode shadow;excess 0");
        net.run(1);
        net.setRate(0, 0);
        net.inject(0, 9);
        Expect.same("shadow 0 and packets", net.link(0, 4), PressureNet.NONE);
        net.addLink(1, 2, 5);
        Expect.same("shadow 1", net.shadow(1, 2), 1);
        Expect.same("shadow 1 is possible", net.link(1, 4), 2);
        net.flush(1, 2);
        Expect.same("without packets, too", net.link(1, 4), 2);
        net.set(0, 0);
        Expect.same("mode 0 looks at the queues", net.link(0, 4), 2);
        Expect.same("mode 0 has no packets there", net.link(1, 4), PressureNet.NONE);
    }

    private static void pressureOfTheGoalIsZero() {
        PressureNet net = net("net 3;link 0 1 1;link 1 0 1;flow 0 1 0;bias 7");
        net.inject(0, 1);
        Expect.same("1 + 7 - 0", net.link(0, 5), 8);
        Expect.same("the goal has no packets for itself", net.link(1, 4), PressureNet.NONE);
    }

    private static void lowestOfSeveralDestinations() {
        PressureNet net = net("net 4;link 0 1 1;flow 0 3 0;flow 0 2 0;flow 0 1 0");
        net.inject(0, 4);
        Expect.same("3 alone", net.link(0, 4), 3);
        net.inject(1, 3);
        Expect.same("3 is greater than 2", net.link(0, 4), 3);
        net.inject(1, 1);
        Expect.same("2 is as great as 3", net.link(0, 4), 2);
        net.inject(2, 4);
        Expect.same("1 is as great", net.link(0, 4), 1);
        net.inject(0, 1);
        Expect.same("3 is greater", net.link(0, 4), 3);
    }

    private static void weightOfNoDifference() {
        PressureNet net = net("net 3;link 0 1 5;flow 0 2 0;flow 1 2 0");
        net.inject(0, 2);
        net.inject(1, 2);
        Expect.same("commodity of the difference 0", net.link(0, 4), 2);
        Expect.same("weight 0", net.link(0, 5), 0);
        Expect.same("not scheduled", net.link(0, 6), 0);
        Expect.same("not chosen by greedy", net.schedule(0), 0);
        Expect.same("not chosen by exact", net.schedule(1), 0);
        net.run(1);
        Expect.same("nothing was carried", net.link(0, 3), 0);
        net.inject(0, 1);
        Expect.same("difference 1", net.link(0, 5), 5);
        Expect.same("scheduled", net.link(0, 6), 1);
    }

    private static void weightOfANegativeDifference() {
        PressureNet net = net("net 4;link 0 1 5;flow 0 2 0;flow 0 3 0;flow 1 2 0;flow 1 3 0");
        net.inject(0, 1);
        net.inject(1, 1);
        net.inject(2, 3);
        net.inject(3, 5);
        Expect.same("the greater one of -2 and -4", net.link(0, 4), 2);
        Expect.same("weight", net.link(0, 5), 0);
        Expect.same("not scheduled", net.link(0, 6), 0);
        net.inject(2, 5);
        Expect.same("the greater one of -7 and -4", net.link(0, 4), 3);
        Expect.same("weight", net.link(0, 5), 0);
        Expect.same("not chosen", net.schedule(0) + net.schedule(1), 0);
        Expect.same("sum of none", net.scheduleWeight(0) + net.scheduleWeight(1), 0);
    }

    private static void biasWithoutAWay() {
        PressureNet net = net("net 3;link 0 1 1;link 1 0 1;flow 0 2 0;bias 20");
        net.inject(0, 1);
        Expect.same("both have no way", net.link(0, 5), 1);
        net.addLink(1, 2, 1);
        Expect.same("2 links and 1 link", net.link(0, 5), 1 + 20 * 2 - 20);
        PressureNet back = net("net 3;link 0 1 1;link 0 2 1;flow 0 2 0;bias 20");
        back.inject(0, 100);
        Expect.same("1 link and no way", back.link(0, 5), 100 + 20 - 20 * 3);
        back.set(2, 0);
        Expect.same("bias 0", back.link(0, 5), 100);
    }

    // ---- Section 3.3

    /** Three links in a row of conflicts, with as many packets as told. */
    private static PressureNet row(int a, int b, int c) {
        PressureNet net = net("net 6;link 0 1 1;link 2 3 1;link 4 5 1;conflict 0 1;conflict 1 2;"
            + "flow 0 1 0;flow 2 3 0;flow 4 5 0");
        int[] packets = {a, b, c};
        for (int k = 0; k < 3; k++) {
            if (packets[k] > 0) {
                net.inject(k, packets[k]);
            }
        }
        return net;
    }

    private static void greedyTies() {
        Expect.same("all alike: the lower number first", row(5, 5, 5).schedule(0), 0b101);
        Expect.same("1 before 2", row(4, 5, 5).schedule(0), 0b010);
        Expect.same("0 before 1", row(5, 5, 4).schedule(0), 0b101);
        Expect.same("the greatest first", row(5, 6, 5).schedule(0), 0b010);
        Expect.same("its weight", row(5, 6, 5).scheduleWeight(0), 6);
    }

    private static void exactTies() {
        Expect.same("1 is as heavy as 0 and 2, and a lower number", row(3, 5, 2).schedule(1), 0b010);
        Expect.same("by one heavier", row(3, 5, 3).schedule(1), 0b101);
        Expect.same("by one lighter", row(3, 6, 2).schedule(1), 0b010);
        Expect.same("0 and 1 alike", row(5, 5, 0).schedule(1), 0b001);
        Expect.same("1 and 2 alike", row(0, 5, 5).schedule(1), 0b010);
        Expect.same("weight", row(3, 5, 2).scheduleWeight(1), 5);
    }

    /** Link 13 leads from 1, the others from 0; it is in conflict with the links 11 and 12. */
    private static PressureNet fourteen(int packets) {
        PressureNet net = net("net 10;flow 0 8 0;flow 1 7 0");
        for (int to = 1; to < 10; to++) {
            net.addLink(0, to, 1);
        }
        for (int from = 2; from < 6; from++) {
            net.addLink(from, 0, 1);
        }
        net.addLink(1, 9, 1);
        net.setConflict(13, 7, true);
        net.setConflict(13, 8, true);
        net.inject(0, 10);
        net.inject(1, packets);
        return net;
    }

    private static void theLastOf14Links() {
        int nine = (1 << 9) - 1;
        Expect.same("20 are not more than 10 and 10", fourteen(20).schedule(1), nine);
        Expect.same("21 are more", fourteen(21).schedule(1), nine & ~(3 << 7) | 1 << 13);
        Expect.same("their weight", fourteen(21).scheduleWeight(1), 7 * 10 + 21);
        Expect.same("greedy: 11 before 10", fourteen(11).schedule(0), nine & ~(3 << 7) | 1 << 13);
        Expect.same("greedy: of 10 the lower numbers first", fourteen(10).schedule(0), nine);
    }

    private static void onlyWeightsGreaterThan0() {
        Expect.same("none", row(0, 0, 0).schedule(0) + row(0, 0, 0).schedule(1), 0);
        Expect.same("one of weight 1, greedy", row(0, 1, 0).schedule(0), 0b010);
        Expect.same("one of weight 1, exact", row(0, 1, 0).schedule(1), 0b010);
        Expect.same("a free link of weight 0 is left out", row(3, 0, 0).schedule(1), 0b001);
    }

    // ---- Section 3.4

    private static void asManyAsTheCapacity() {
        int[][] cases = {{1, 1, 0}, {4, 4, 0}, {5, 5, 0}, {6, 5, 1}, {100, 5, 95}};
        for (int[] c : cases) {
            PressureNet net = net("net 2;link 0 1 5;flow 0 1 0");
            net.inject(0, c[0]);
            Expect.same("would carry", net.link(0, 7), c[1]);
            Expect.same("left", net.run(1), c[2]);
            Expect.same("carried", net.link(0, 3), c[1]);
            Expect.same("delivered", net.flow(0, 6), c[1]);
        }
        PressureNet one = net("net 2;link 0 1 1;flow 0 1 0");
        one.inject(0, 2);
        Expect.same("capacity 1", one.run(1), 1);
    }

    private static void amountsOfShadows() {
        int[][] cases = {{2, 1, 2}, {3, 0, 3}, {5, 0, 3}};
        for (int[] c : cases) {
            PressureNet net = net("net 3;link 0 1 " + c[0] + ";flow 0 2 300;excess 0;mode shadow");
            net.run(1);
            Expect.same("left of 3", net.shadow(0, 2), c[1]);
            Expect.same("moved of 3", net.shadow(1, 2), c[2]);
        }
        PressureNet plain = net("net 3;link 0 1 5;flow 0 2 300;excess 50");
        plain.run(1);
        Expect.same("mode 0 moves shadows, too", plain.shadow(1, 2), 4);
        Expect.same("of 3 packets", plain.queue(1, 2), 3);
        PressureNet bare = net("net 3;link 0 1 5;flow 0 2 0");
        bare.inject(0, 2);
        bare.run(1);
        Expect.same("packets without shadows", bare.queue(1, 2), 2);
        Expect.same("no shadow", bare.total(3), 0);
    }

    private static void shadowsVanishAtTheGoal() {
        PressureNet net = net("net 2;link 0 1 2;flow 0 1 300;excess 0;mode shadow");
        net.run(1);
        Expect.same("1 of 3 is left", net.shadow(0, 1), 1);
        Expect.same("2 are gone", net.total(3), 1);
    }

    private static void oneLinkInASlot() {
        PressureNet net = net("net 4;link 0 1 1;link 1 2 1;link 2 3 1;flow 0 3 0");
        net.inject(0, 1);
        for (int node = 1; node < 3; node++) {
            net.run(1);
            Expect.same("it is at " + node, net.queue(node, 3), 1);
            Expect.same("links", net.packet(node, 3, 0, 2), node);
            Expect.same("nodes", net.packet(node, 3, 0, 3), (2 << node) - 1);
        }
        Expect.same("delivered", net.run(1), 0);
        Expect.same("delay", net.flow(0, 9), 3);
        Expect.same("no shadow for a queue of none", net.total(3), 0);
    }

    private static void arrivalsInTheOrderOfLinks() {
        PressureNet net = net("net 4;link 2 1 2;link 0 1 2;flow 0 3 0;flow 2 3 0");
        net.inject(0, 2);
        net.inject(1, 2);
        net.run(1);
        int[] due = {1, 1, 0, 0};
        for (int i = 0; i < 4; i++) {
            Expect.same("packet " + i, net.packet(1, 3, i, 0), due[i]);
        }
    }

    private static void delayOfOne() {
        PressureNet net = net("net 2;link 0 1 1;flow 0 1 100");
        net.run(1);
        Expect.same("delivered in the slot of its arrival", net.flow(0, 6), 1);
        Expect.same("delay 1", net.flow(0, 9), 1);
        Expect.same("greatest delay 1", net.flow(0, 10), 1);
        net.run(50);
        Expect.same("51 delays of 1", net.flow(0, 9), 51);
        Expect.same("greatest delay 1", net.flow(0, 10), 1);
    }

    private static void loopsFromTheSecondTimeOn() {
        PressureNet net = net("net 3;link 0 1 1;link 1 0 1;flow 0 2 0");
        net.inject(0, 1);
        net.run(1);
        Expect.same("first at 1", net.flow(0, 8), 0);
        net.run(1);
        Expect.same("it has been at 0, its source", net.flow(0, 8), 1);
        net.run(1);
        Expect.same("it has been at 1", net.flow(0, 8), 2);
        for (int i = 0; i < 6; i++) {
            net.run(50);
        }
        Expect.same("a loop in each slot", net.flow(0, 8), 302);
        Expect.same("links", net.packet(1, 2, 0, 2), 303);
        Expect.same("nodes", net.packet(1, 2, 0, 3), 3);
        net.addLink(1, 2, 1);
        net.set(2, 1);
        net.run(1);
        Expect.same("delivered is no loop", net.flow(0, 8), 302);
        Expect.same("delay", net.flow(0, 10), 304);
    }

    // ---- Sections 3.5 and 4

    private static void budgetOf0() {
        PressureNet net = net("net 2;flow 0 1 0 budget 0");
        net.inject(0, 3);
        for (int i = 0; i < 5; i++) {
            Expect.same("they stay", net.run(50), 3);
        }
        Expect.same("none expired", net.flow(0, 7), 0);
        net.setBudget(0, 1);
        Expect.same("they expire at once", net.run(1), 0);
        Expect.same("3 expired", net.flow(0, 7), 3);
    }

    private static void budgetOf1() {
        PressureNet net = net("net 2;flow 0 1 100 budget 1");
        Expect.same("it expires in the slot of its arrival", net.run(1), 0);
        Expect.same("expired", net.flow(0, 7), 1);
        net.setBudget(0, 2);
        Expect.same("budget 2: it stays one slot", net.run(1), 1);
        Expect.same("not longer", net.run(1), 1);
        Expect.same("expired", net.flow(0, 7), 2);
    }

    private static void budgetOf200() {
        PressureNet net = net("net 2;flow 0 1 0 budget 200");
        net.inject(0, 2);
        net.run(50);
        net.run(50);
        net.run(50);
        Expect.same("199 slots", net.run(49), 2);
        Expect.same("none expired", net.flow(0, 7), 0);
        Expect.same("the 200th slot", net.run(1), 0);
        Expect.same("2 expired", net.flow(0, 7), 2);
    }

    private static void deliveredInTheLastSlot() {
        PressureNet net = net("net 3;link 0 1 1;link 1 2 1;flow 0 2 0 budget 2");
        net.inject(0, 2);
        net.run(1);
        Expect.same("none expired", net.flow(0, 7), 0);
        Expect.same("nothing is left", net.run(1), 0);
        Expect.same("delivered in time", net.flow(0, 6), 1);
        Expect.same("its delay is the budget", net.flow(0, 9), 2);
        Expect.same("the other one expired", net.flow(0, 7), 1);
    }

    private static void aBudgetThatIsOver() {
        PressureNet net = net("net 2;flow 0 1 0;flow 0 1 0");
        net.inject(0, 1);
        net.inject(1, 1);
        net.inject(0, 1);
        net.run(50);
        net.setBudget(0, 10);
        Expect.same("it expires behind the next slot only", net.total(1), 3);
        Expect.same("the flow without a budget stays", net.run(1), 1);
        Expect.same("expired", net.flow(0, 7), 2);
        Expect.same("the one that is left", net.packet(0, 1, 0, 0), 1);
        Expect.same("expired of flow 1", net.flow(1, 7), 0);
        net.inject(0, 1);
        Expect.same("it comes behind the one that is left", net.packet(0, 1, 1, 0), 0);
        Expect.same("its slot", net.packet(0, 1, 1, 1), 51);
    }

    /** Of five packets each set may expire: at the front, in the middle, at the end, none, all. */
    private static void expiryAnywhereInAQueue() {
        for (int set = 0; set < 32; set++) {
            PressureNet net = net("net 2;flow 0 1 0;flow 0 1 0");
            for (int i = 0; i < 5; i++) {
                net.inject(set >> i & 1, 1);
                net.run(1);
            }
            net.setBudget(1, 1);
            int left = 5 - Integer.bitCount(set);
            Expect.same("left of " + set, net.run(1), left);
            net.inject(1, 2);
            int at = 0;
            for (int i = 0; i < 5; i++) {
                if ((set >> i & 1) == 0) {
                    Expect.same("packet " + at + " of " + set, net.packet(0, 1, at, 1), i);
                    at++;
                }
            }
            Expect.same("the new one behind " + set, net.packet(0, 1, left, 1), 6);
            Expect.same("the last one behind " + set, net.packet(0, 1, left + 1, 0), 1);
            Expect.same("they expire, too", net.run(1), left);
            net.inject(0, 1);
            Expect.same("the last one of all", net.packet(0, 1, left, 1), 7);
        }
    }

    private static void countedSinceAdded() {
        PressureNet net = net("net 2;link 0 1 5;flow 0 1 100");
        net.run(10);
        int flow = net.addFlow(0, 1, 100, 0);
        for (int what = 4; what < 11; what++) {
            Expect.same("nothing yet " + what, net.flow(flow, what), 0);
        }
        net.run(5);
        Expect.same("arrived since", net.flow(flow, 4), 5);
        Expect.same("delivered since", net.flow(flow, 6), 5);
        Expect.same("the first flow goes on", net.flow(0, 4), 15);
    }

    private static void peakBehindASlot() {
        PressureNet net = filled("net 2;link 0 1 5;flow 0 1 0", 500);
        Expect.same("no slot yet", net.total(2), 0);
        net.run(1);
        Expect.same("behind the slot", net.total(2), 495);
        net.inject(0, 5);
        Expect.same("injected ones do not count", net.total(2), 495);
        net.run(3);
        Expect.same("it is behind one of the slots", net.total(2), 495);
        PressureNet gone = net("net 2;flow 0 1 300 budget 1");
        gone.run(50);
        Expect.same("behind the expiry", gone.total(2), 0);
        PressureNet still = filled("net 2;flow 0 1 0", 500);
        still.run(1);
        Expect.same("the greatest there can be", still.total(2), 500);
    }
}
