/** Boundary cases of promises 38 to 44 and of section 5: one method for each sentence that names one. */
public final class BoundsOfLookAheadTest extends Bounds {
    public static void main(String[] args) {
        forecastSlots();
        forecastWhat();
        forecastFlowOfAFlow();
        forecastFlowSlotsAndWhat();
        beyondSlot9999();
        nothingChanges();
        slotsToFullSlots();
        slotsToFullPackets();
        slotsToFullNow();
        slotsToFullTheFirstTime();
        slotsToFullNever();
        bestBiasSlots();
        bestBiasOfSeveral();
        bestExcessSlots();
        bestExcessOfSeveral();
        bestSettingsSlots();
        bestSettingsOfSeveral();
        sustainableOfAFlow();
        sustainableSlots();
        sustainable100Packets();
        sustainableBehindEachSlot();
        sustainableNotForTheRate0();
        sustainableForAllLesserRates();
        Expect.end("BoundsOfLookAheadTest");
    }

    // ---- Promises 38 and 39

    private static void forecastSlots() {
        BUSY.refusesEach("slots", ARGUMENT, Twins.outside(1, 50), (x, v) -> x.forecast(v, 0));
        BARE.refusesEach("slots", ARGUMENT, Twins.outside(1, 50), (x, v) -> x.forecast(v, 5));
        BUSY.asks("1 slot", 6, x -> x.forecast(1, 0));
        BUSY.asks("50 slots", 55, x -> x.forecast(50, 0));
        BARE.asks("50 slots of nothing", 0, x -> x.forecast(50, 1));
        FULL.asks("1 slot of a full net", 500, x -> x.forecast(1, 2));
    }

    private static void forecastWhat() {
        BUSY.refusesEach("what", ARGUMENT, Twins.outside(0, 5), (x, v) -> x.forecast(1, v));
        BUSY.refuses("slots and what", ARGUMENT, x -> x.forecast(0, 6));
        for (int what = 0; what <= 5; what++) {
            int w = what;
            PressureNet net = Twins.busy();
            net.run(50);
            BUSY.asks("what " + w, net.total(w), x -> x.forecast(50, w));
        }
    }

    private static void forecastFlowOfAFlow() {
        BUSY.refusesEach("flow", INDEX, Twins.outside(0, 2), (x, v) -> x.forecastFlow(v, 1, 0));
        WIDE.refusesEach("flow", INDEX, Twins.outside(0, 5), (x, v) -> x.forecastFlow(v, 1, 0));
        BARE.refuses("flow 0 of none", INDEX, x -> x.forecastFlow(0, 1, 0));
        BUSY.refuses("flow before slots", INDEX, x -> x.forecastFlow(3, 0, 0));
        BUSY.refuses("flow before slots", INDEX, x -> x.forecastFlow(-1, 51, 0));
        BUSY.refuses("flow before what", INDEX, x -> x.forecastFlow(3, 1, 11));
        BUSY.asks("flow 2", 2, x -> x.forecastFlow(2, 1, 0));
        WIDE.asks("flow 5", 5, x -> x.forecastFlow(5, 50, 0));
    }

    private static void forecastFlowSlotsAndWhat() {
        BUSY.refusesEach("slots", ARGUMENT, Twins.outside(1, 50), (x, v) -> x.forecastFlow(0, v, 4));
        BUSY.refusesEach("what", ARGUMENT, Twins.outside(0, 10), (x, v) -> x.forecastFlow(0, 1, v));
        BUSY.refuses("slots and what", ARGUMENT, x -> x.forecastFlow(2, 51, 11));
        for (int slots : Twins.values(1, 50)) {
            PressureNet net = Twins.busy();
            net.run(slots);
            for (int what = 0; what <= 10; what++) {
                int w = what;
                BUSY.asks("what " + w, net.flow(0, w), x -> x.forecastFlow(0, slots, w));
            }
        }
    }

    // ---- Section 5

    private static PressureNet last() {
        PressureNet net = Expect.net("net 2;link 0 1 1;flow 0 1 37;flow 1 0 300 budget 9;excess 7");
        for (int i = 0; i < 199; i++) {
            net.run(50);
        }
        net.run(49);
        return net;
    }

    private static void beyondSlot9999() {
        Twins late = new Twins(BoundsOfLookAheadTest::last);
        late.refuses("run", ARGUMENT, x -> x.run(1));
        late.asks("the slot behind the last one", 10000, x -> x.forecast(1, 0));
        late.asks("50 slots more", 10049, x -> x.forecast(50, 0));
        late.asks("arrivals go on", 10049 * 37 / 100, x -> x.forecastFlow(0, 50, 4));
        late.asks("3 in each slot", 3 * 10049, x -> x.forecastFlow(1, 50, 4));
        late.asks("expired ones", 3 * 10041, x -> x.forecastFlow(1, 50, 7));
        late.asks("slotsToFull", 0, x -> x.slotsToFull(50, 24));
        late.refuses("slotsToFull", ELEMENT, x -> x.slotsToFull(50, 500));
        late.asks("bestBias", 0, x -> x.bestBias(50));
        late.asks("bestSettings", 0, x -> x.bestSettings(50));
        late.asks("sustainable", 300, x -> x.sustainable(1, 20));
        PressureNet net = last();
        Expect.same("bestExcess", net.bestExcess(50) % 10, 0);
    }

    private static void nothingChanges() {
        PressureNet now = Twins.busy();
        BUSY.asks("forecast", now.forecast(50, 4), x -> x.forecast(50, 4));
        BUSY.asks("forecastFlow", now.forecastFlow(0, 50, 9), x -> x.forecastFlow(0, 50, 9));
        BUSY.asks("slotsToFull", now.slotsToFull(50, 12), x -> x.slotsToFull(50, 12));
        BUSY.asks("bestBias", now.bestBias(50), x -> x.bestBias(50));
        BUSY.asks("bestExcess", now.bestExcess(50), x -> x.bestExcess(50));
        BUSY.asks("bestSettings", now.bestSettings(50), x -> x.bestSettings(50));
        BUSY.asks("sustainable", now.sustainable(0, 20), x -> x.sustainable(0, 20));
        FULL.asks("sustainable in a full net", PressureNet.NONE, x -> x.sustainable(0, 20));
        FULL.asks("bestBias in a full net", Twins.full().bestBias(50), x -> x.bestBias(50));
    }

    // ---- Promise 40

    private static void slotsToFullSlots() {
        BUSY.refusesEach("slots", ARGUMENT, Twins.outside(1, 50), (x, v) -> x.slotsToFull(v, 1));
        FULL.refusesEach("slots", ARGUMENT, Twins.outside(1, 50), (x, v) -> x.slotsToFull(v, 500));
    }

    private static void slotsToFullPackets() {
        BUSY.refusesEach("packets", ARGUMENT, Twins.outside(1, 500), (x, v) -> x.slotsToFull(1, v));
        FULL.refusesEach("packets", ARGUMENT, Twins.outside(1, 500), (x, v) -> x.slotsToFull(50, v));
        BARE.refuses("arguments before the rest", ARGUMENT, x -> x.slotsToFull(51, 500));
        BARE.refuses("arguments before the rest", ARGUMENT, x -> x.slotsToFull(50, 501));
    }

    private static void slotsToFullNow() {
        FULL.asks("500 are there", 0, x -> x.slotsToFull(1, 500));
        FULL.asks("1 is there", 0, x -> x.slotsToFull(50, 1));
        PressureNet net = Expect.net("net 2;flow 0 1 0");
        net.inject(0, 7);
        Expect.same("as many", net.slotsToFull(1, 7), 0);
        Expect.fails("one more", ELEMENT, () -> net.slotsToFull(1, 8));
    }

    private static void slotsToFullTheFirstTime() {
        PressureNet net = Expect.net("net 2;link 0 1 5;flow 0 1 300;flow 1 0 100");
        Expect.same("1 slot", net.slotsToFull(50, 1), 1);
        Expect.same("50 slots", net.slotsToFull(50, 50), 50);
        Expect.same("50 slots are enough", net.slotsToFull(50, 49), 49);
        Expect.fails("49 slots are not", ELEMENT, () -> net.slotsToFull(49, 50));
        PressureNet wave = Expect.net("net 2;link 0 1 1;flow 0 1 150 budget 20");
        Expect.same("for the first time", wave.slotsToFull(50, 3), 6);
        PressureNet full = Expect.net("net 2;flow 0 1 300;flow 0 1 300;flow 0 1 300;flow 0 1 300");
        Expect.same("500 at 12 in a slot", full.slotsToFull(50, 500), 42);
    }

    private static void slotsToFullNever() {
        BARE.refuses("no flows", ELEMENT, x -> x.slotsToFull(50, 1));
        WIDE.refuses("no packets come", ELEMENT, x -> x.slotsToFull(50, 1));
        new Twins(PressureNet::new).refuses("500 packets", ELEMENT, x -> x.slotsToFull(50, 500));
        PressureNet net = Expect.net("net 2;link 0 1 3;flow 0 1 300");
        Expect.fails("within a slot they do not count", ELEMENT, () -> net.slotsToFull(50, 1));
    }

    // ---- Promises 41 to 43

    private static void bestBiasSlots() {
        BUSY.refusesEach("slots", ARGUMENT, Twins.outside(1, 50), PressureNet::bestBias);
        BARE.refusesEach("slots", ARGUMENT, Twins.outside(1, 50), PressureNet::bestBias);
        BARE.asks("1 slot", 0, x -> x.bestBias(1));
        BARE.asks("50 slots", 0, x -> x.bestBias(50));
    }

    /** The one packet of link 1 is delivered if 1 + bias is more than the packets of link 0, which has no way. */
    private static PressureNet against(int packets) {
        PressureNet net = Expect.net("net 4;link 1 3 1;link 0 2 1;conflict 0 1;flow 0 2 0;flow 1 0 0;bias 9");
        net.inject(0, 1);
        net.inject(1, packets);
        return net;
    }

    private static void bestBiasOfSeveral() {
        Expect.same("bias 1 is enough", against(1).bestBias(1), 1);
        Expect.same("bias 5 is enough", against(5).bestBias(1), 5);
        Expect.same("bias 19 is enough", against(19).bestBias(1), 19);
        Expect.same("bias 20 is enough", against(20).bestBias(1), 20);
        Expect.same("bias 20 is not enough: all alike", against(21).bestBias(1), 0);
        Expect.same("the bias stays", against(5).count(5), 9);
        PressureNet loops = Expect.net("net 4;link 0 1 2;link 1 3 2;link 3 1 2;link 1 2 1;bias 9;flow 0 2 90");
        loops.inject(0, 6);
        Expect.same("the fewest loops of as many packets", loops.bestBias(9), 6);
        Expect.same("as by runs", loops.bestBias(9), LookAheadTest.slowBias(loops, 9));
        Expect.same("as by 50 slots", loops.bestBias(50), LookAheadTest.slowBias(loops, 50));
    }

    private static void bestExcessSlots() {
        BUSY.refusesEach("slots", ARGUMENT, Twins.outside(1, 50), PressureNet::bestExcess);
        BARE.refusesEach("slots", ARGUMENT, Twins.outside(1, 50), PressureNet::bestExcess);
        BARE.asks("1 slot", 0, x -> x.bestExcess(1));
        BARE.asks("50 slots", 0, x -> x.bestExcess(50));
    }

    /** One packet waits, and its shadow comes in the first slot at a rate that outgrows 100 by the excess. */
    private static PressureNet waiting(int rate) {
        PressureNet net = Expect.net("net 2;link 0 1 5;flow 0 1 " + rate + ";excess 7");
        net.inject(0, 5);
        return net;
    }

    private static void bestExcessOfSeveral() {
        Expect.same("rate 100 needs none", waiting(100).bestExcess(1), 0);
        Expect.same("rate 99 needs 10", waiting(99).bestExcess(1), 10);
        Expect.same("rate 90 needs 12, so 20", waiting(90).bestExcess(1), 20);
        Expect.same("rate 80 needs 25, so 30", waiting(80).bestExcess(1), 30);
        Expect.same("rate 72 needs 39, so 40", waiting(72).bestExcess(1), 40);
        Expect.same("rate 67 needs 50", waiting(67).bestExcess(1), 50);
        Expect.same("rate 66 needs more: all alike", waiting(66).bestExcess(1), 0);
        Expect.same("mode and excess stay", waiting(90).count(3) * 100 + waiting(90).count(4), 7);
    }

    private static void bestSettingsSlots() {
        BUSY.refusesEach("slots", ARGUMENT, Twins.outside(1, 50), PressureNet::bestSettings);
        BARE.refusesEach("slots", ARGUMENT, Twins.outside(1, 50), PressureNet::bestSettings);
        BARE.asks("1 slot", 0, x -> x.bestSettings(1));
        BARE.asks("50 slots", 0, x -> x.bestSettings(50));
    }

    private static PressureNet wasted(String text) {
        PressureNet net = Expect.net(text);
        net.inject(0, 5);
        net.inject(1, 4);
        return net;
    }

    private static void bestSettingsOfSeveral() {
        String star = "net 4;link 0 1 1;link 1 2 1;link 2 3 1;conflict 0 1;conflict 1 2;flow 0 1 0;flow 1 2 0;flow 2 3 0";
        PressureNet exact = Expect.net(star);
        exact.inject(0, 5);
        exact.inject(1, 6);
        exact.inject(2, 5);
        Expect.same("mode 0, exact", exact.bestSettings(1), 1);
        PressureNet alike = Expect.net(star);
        alike.inject(1, 6);
        Expect.same("both schedulers alike, mode 1 without shadows", alike.bestSettings(1), 0);
        // In mode 0 all 5 packets of 0 come to the 4 at 1; in mode 1 they have no shadow and stay.
        String waste = "net 9;link 0 1 5;flow 0 2 0;flow 1 2 0;excess 0";
        Expect.same("mode 1", wasted(waste).bestSettings(1), 10);
        PressureNet shadow = wasted(waste + ";link 3 4 1;link 5 6 1;link 7 8 1;conflict 1 2;conflict 2 3;"
            + "flow 3 4 200;flow 5 6 300;flow 7 8 200");
        Expect.same("mode 1, exact", shadow.bestSettings(1), 11);
        shadow.set(0, 1);
        shadow.set(3, 1);
        Expect.same("the settings of now do not matter", shadow.bestSettings(1), 11);
        Expect.same("they stay", shadow.count(3) + shadow.count(6), 2);
    }

    // ---- Promise 44

    private static void sustainableOfAFlow() {
        BUSY.refusesEach("flow", INDEX, Twins.outside(0, 2), (x, v) -> x.sustainable(v, 1));
        FULL.refusesEach("flow", INDEX, Twins.outside(0, 5), (x, v) -> x.sustainable(v, 20));
        BARE.refuses("flow 0 of none", INDEX, x -> x.sustainable(0, 1));
        BUSY.refuses("flow first", INDEX, x -> x.sustainable(3, 21));
        BUSY.refuses("flow first", INDEX, x -> x.sustainable(-1, 0));
    }

    private static void sustainableSlots() {
        BUSY.refusesEach("slots", ARGUMENT, Twins.outside(1, 20), (x, v) -> x.sustainable(0, v));
        FULL.refuses("50 slots", ARGUMENT, x -> x.sustainable(0, 50));
        WIDE.asks("1 slot", 300, x -> x.sustainable(5, 1));
        WIDE.asks("20 slots", 300, x -> x.sustainable(5, 20));
    }

    private static PressureNet with(String text, int packets) {
        PressureNet net = Expect.net(text);
        net.inject(0, Math.min(100, packets));
        if (packets > 100) {
            net.inject(0, packets - 100);
        }
        return net;
    }

    private static void sustainable100Packets() {
        String text = "net 2;flow 0 1 7;flow 0 1 0";
        Expect.same("97 and 3 are 100", with(text, 97).sustainable(0, 1), 300);
        Expect.same("98 and 3 are 101", with(text, 98).sustainable(0, 1), 299);
        Expect.same("99 and 2 are 101", with(text, 99).sustainable(0, 1), 199);
        Expect.same("100 and 1 are 101", with(text, 100).sustainable(0, 1), 99);
        Expect.same("40, 1 and 59 are 100", with(text, 40).sustainable(1, 20), 299);
        Expect.same("the rate stays", with(text, 97).flow(0, 2), 7);
    }

    private static void sustainableBehindEachSlot() {
        String text = "net 2;link 0 1 5;flow 0 1 0";
        Expect.same("behind the last slot it holds, behind the first one not", with(text, 106).sustainable(0, 20), -1);
        Expect.same("105 are 100 behind the first one if none comes", with(text, 105).sustainable(0, 20), 99);
        Expect.same("105 within the slot do not matter", with(text, 102).sustainable(0, 20), 300);
    }

    private static void sustainableNotForTheRate0() {
        String text = "net 2;flow 0 1 0";
        Expect.same("101 packets", with(text, 101).sustainable(0, 1), PressureNet.NONE);
        Expect.same("101 packets", with(text, 101).sustainable(0, 20), PressureNet.NONE);
        PressureNet other = Expect.net("net 2;flow 0 1 0;flow 1 0 300;flow 1 0 300");
        Expect.same("the other flows bring 96", other.sustainable(0, 16), 31);
        Expect.same("the other flows bring 102", other.sustainable(0, 17), PressureNet.NONE);
        FULL.asks("a full net", PressureNet.NONE, x -> x.sustainable(0, 1));
        PressureNet zero = Expect.net("net 2;flow 0 1 50");
        zero.run(50);
        zero.run(49);
        zero.flush(0, 1);
        zero.inject(0, 100);
        Expect.same("0 holds, 1 does not", zero.sustainable(0, 1), 0);
    }

    private static void sustainableForAllLesserRates() {
        PressureNet net = Expect.net("net 2;flow 0 1 0");
        net.run(49);
        net.inject(0, 100);
        // In slot 49 a packet comes at the rate 2, but none at the rate 3.
        Expect.same("2 does not hold", net.sustainable(0, 1), 1);
        net.setRate(0, 3);
        Expect.same("3 would hold", net.forecast(1, 1), 100);
        net.setRate(0, 2);
        Expect.same("2 would not", net.forecast(1, 1), 101);
    }
}
