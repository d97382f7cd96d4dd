/** Promises 29 to 35. */
public final class QueuesTest {
    public static void main(String[] args) {
        queueAndShadow();
        packet();
        total();
        fullest();
        urgent();
        meanDelay();
        Expect.end("QueuesTest");
    }

    private static void queueAndShadow() {
        PressureNet net = Expect.net("net 3;link 0 1 1;flow 0 2 200;flow 0 1 0;flow 2 1 100");
        net.inject(1, 4);
        net.run(2);
        // In slot 0 the 4 packets for 1 are more than the 2 for 2, in slot 1 it is 3 against 4.
        Expect.same("queue 0 1", net.queue(0, 1), 3);
        Expect.same("queue 0 2", net.queue(0, 2), 3);
        Expect.same("queue 1 2", net.queue(1, 2), 1);
        Expect.same("queue 2 1", net.queue(2, 1), 2);
        Expect.same("queue 1 0", net.queue(1, 0), 0);
        Expect.same("shadow 0 1", net.shadow(0, 1), 0);
        Expect.same("shadow 0 2", net.shadow(0, 2), 3);
        Expect.same("shadow 1 2", net.shadow(1, 2), 1);
        Expect.same("shadow 2 1", net.shadow(2, 1), 2);
        for (int i = 0; i < 2; i++) {
            boolean shadow = i == 1;
            Expect.fails("node 3", Expect.INDEX, () -> shadow ? net.shadow(3, 3) : net.queue(3, 3));
            Expect.fails("node -1", Expect.INDEX, () -> shadow ? net.shadow(-1, 0) : net.queue(-1, 0));
            Expect.fails("destination 3", Expect.INDEX, () -> shadow ? net.shadow(0, 3) : net.queue(0, 3));
            Expect.fails("the same", Expect.ARGUMENT, () -> shadow ? net.shadow(1, 1) : net.queue(1, 1));
        }
    }

    private static void packet() {
        PressureNet net = Expect.net("net 4;link 0 1 1;link 1 2 1;flow 0 3 0;flow 0 3 0");
        net.inject(1, 1);
        net.inject(0, 1);
        net.run(1);
        net.inject(1, 1);
        int[] due = {1, 0, 1, 3};
        for (int what = 0; what < 4; what++) {
            Expect.same("packet at 1 " + what, net.packet(1, 3, 0, what), due[what]);
        }
        int[][] others = {{0, 0, 0, 1}, {1, 1, 0, 1}};
        for (int i = 0; i < 2; i++) {
            for (int what = 0; what < 4; what++) {
                Expect.same("packet at 0 " + i + " " + what, net.packet(0, 3, i, what), others[i][what]);
            }
        }
        Expect.fails("node 4", Expect.INDEX, () -> net.packet(4, 4, 0, 9));
        Expect.fails("destination -1", Expect.INDEX, () -> net.packet(0, -1, 0, 0));
        Expect.fails("the same", Expect.ARGUMENT, () -> net.packet(0, 0, 0, 0));
        Expect.fails("what -1", Expect.ARGUMENT, () -> net.packet(0, 3, 9, -1));
        Expect.fails("what 4", Expect.ARGUMENT, () -> net.packet(0, 3, 0, 4));
        Expect.fails("index 2", Expect.ELEMENT, () -> net.packet(0, 3, 2, 0));
        Expect.fails("index -1", Expect.ELEMENT, () -> net.packet(0, 3, -1, 0));
        Expect.fails("greatest index", Expect.ELEMENT, () -> net.packet(0, 3, Integer.MAX_VALUE, 0));
        Expect.fails("an empty queue", Expect.ELEMENT, () -> net.packet(3, 0, 0, 0));
    }

    private static void total() {
        PressureNet net = Expect.net("net 3;link 0 1 1;flow 0 2 300;flow 2 0 100;excess 50");
        net.inject(1, 9);
        net.run(2);
        // queue 0 2: 6 came, 2 went to node 1 one by one; shadows grow by floor(4.5 t) and floor(1.5 t)
        Expect.same("slot", net.total(0), 2);
        Expect.same("packets", net.total(1), 17);
        Expect.same("peak", net.total(2), 17);
        Expect.same("shadows", net.total(3), 9 + 3);
        Expect.same("squares of queues", net.total(4), 4 * 4 + 2 * 2 + 11 * 11);
        Expect.same("squares of shadows", net.total(5), 7 * 7 + 2 * 2 + 3 * 3);
        net.flush(2, 0);
        net.run(1);
        Expect.same("packets", net.total(1), 10);
        Expect.same("peak stays", net.total(2), 17);
        Expect.fails("total -1", Expect.ARGUMENT, () -> net.total(-1));
        Expect.fails("total 6", Expect.ARGUMENT, () -> net.total(6));
        PressureNet great = Expect.net("net 2;flow 0 1 300;flow 0 1 300;flow 0 1 300;flow 0 1 300;flow 0 1 300;flow 0 1 300;excess 50");
        for (int i = 0; i < 199; i++) {
            great.run(50);
        }
        long shadow = 6L * (9950 * 45 / 10);
        Expect.same("a great shadow", great.shadow(0, 1), shadow);
        Expect.same("its square is a long", great.total(5), shadow * shadow);
        Expect.same("500 packets", great.total(4), 250000);
    }

    private static void fullest() {
        PressureNet net = Expect.net("net 10;flow 9 8 0;flow 3 7 0;flow 3 2 0;flow 5 0 0");
        Expect.fails("all are empty", Expect.ELEMENT, net::fullest);
        net.inject(0, 2);
        Expect.same("the only one", net.fullest(), 908);
        net.inject(3, 2);
        Expect.same("the lower node", net.fullest(), 500);
        net.inject(1, 2);
        Expect.same("the lower node", net.fullest(), 307);
        net.inject(2, 2);
        Expect.same("the lower destination", net.fullest(), 302);
        net.inject(0, 1);
        Expect.same("the most packets", net.fullest(), 908);
    }

    private static void urgent() {
        PressureNet net = Expect.net("net 3;flow 0 2 0 budget 10;flow 1 2 0;flow 1 2 0 budget 8");
        Expect.fails("no packet", Expect.ELEMENT, net::urgent);
        net.inject(1, 1);
        Expect.fails("no packet with a budget", Expect.ELEMENT, net::urgent);
        net.inject(0, 1);
        Expect.same("10 slots", net.urgent(), 10);
        net.run(3);
        Expect.same("7 slots", net.urgent(), 7);
        net.inject(2, 1);
        Expect.same("still 7 slots", net.urgent(), 7);
        net.setBudget(2, 4);
        Expect.same("4 slots", net.urgent(), 4);
        net.setBudget(0, 2);
        Expect.same("not negative", net.urgent(), 0);
        net.setBudget(0, 0);
        Expect.same("budget 0 is none", net.urgent(), 4);
        net.run(4);
        Expect.same("it expired then", net.flow(2, 7), 1);
        Expect.fails("no packet with a budget", Expect.ELEMENT, net::urgent);
    }

    private static void meanDelay() {
        PressureNet net = Expect.net("net 2;link 0 1 2;flow 0 1 0;flow 0 1 0");
        Expect.fails("flow 2", Expect.INDEX, () -> net.meanDelay(2, true));
        Expect.fails("flow -1", Expect.INDEX, () -> net.meanDelay(-1, false));
        Expect.fails("none delivered", Expect.ELEMENT, () -> net.meanDelay(0, true));
        Expect.fails("none delivered", Expect.ELEMENT, () -> net.meanDelay(0, false));
        net.inject(0, 6);
        net.run(2);
        Expect.same("numerator of 6/4", net.meanDelay(0, false), 3);
        Expect.same("denominator of 6/4", net.meanDelay(0, true), 2);
        net.run(1);
        Expect.same("numerator of 12/6", net.meanDelay(0, false), 2);
        Expect.same("denominator of 12/6", net.meanDelay(0, true), 1);
        Expect.fails("none of flow 1", Expect.ELEMENT, () -> net.meanDelay(1, false));
    }
}
