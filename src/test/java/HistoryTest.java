/** Promises 17 to 20. */
public final class HistoryTest {
    public static void main(String[] args) {
        undoOfEachChange();
        sixAtMost();
        whatIsNoChange();
        failedCalls();
        saveAndRestore();
        undoKeepsOthers();
        Expect.end("HistoryTest");
    }

    private static final String TEXT = "net 4;link 0 1 2;link 1 2 1;link 2 3 1;conflict 0 1;"
        + "flow 0 3 120 budget 9;flow 1 0 30;excess 20;bias 1";

    /** All that can be asked about the state, in one number. */
    static long print(PressureNet net) {
        long sum = 0;
        for (int what = 0; what < 7; what++) {
            sum = 31 * sum + net.count(what);
        }
        for (int what = 0; what < 6; what++) {
            sum = 31 * sum + net.total(what);
        }
        for (int k = 0; k < net.count(1); k++) {
            for (int what = 0; what < 8; what++) {
                sum = 31 * sum + net.link(k, what);
            }
            sum = 31 * sum + net.conflicts(k);
        }
        for (int k = 0; k < net.count(2); k++) {
            for (int what = 0; what < 11; what++) {
                sum = 31 * sum + net.flow(k, what);
            }
        }
        for (int n = 0; n < net.count(0); n++) {
            for (int d = 0; d < net.count(0); d++) {
                sum = 31 * sum + net.hops(n, d);
                sum = n == d ? sum : 31 * sum + net.shadow(n, d);
                for (int i = 0; n != d && i < net.queue(n, d); i++) {
                    for (int what = 0; what < 4; what++) {
                        sum = 31 * sum + net.packet(n, d, i, what);
                    }
                }
            }
        }
        return sum;
    }

    private static PressureNet start() {
        PressureNet net = Expect.net(TEXT);
        net.inject(0, 20);
        net.run(7);
        return net;
    }

    /** Each print is one of a new object, because it takes many calls. */
    private static void undone(String what, Twins.Call change) {
        long before = print(start());
        PressureNet net = start();
        change.on(net);
        Expect.same(what + " is a change", net.undoCount(), 3);
        boolean effect = !what.startsWith("!");
        Expect.same(what + " changes something or nothing", print(net) != before ? 1 : 0, effect ? 1 : 0);
        PressureNet back = start();
        change.on(back);
        Expect.same("undo of " + what, back.undo(), 2);
        Expect.same(what + " is undone", print(back), before);
        Expect.same("the first two are left", back.undoCount(), 2);
    }

    private static void undoOfEachChange() {
        undone("addLink", net -> net.addLink(3, 0, 1));
        undone("setCapacity", net -> net.setCapacity(1, 5));
        undone("!setCapacity", net -> net.setCapacity(1, 1));
        undone("setConflict", net -> net.setConflict(0, 2, true) ? 1 : 0);
        undone("!setConflict", net -> net.setConflict(0, 1, true) ? 1 : 0);
        undone("addFlow", net -> net.addFlow(2, 0, 5, 5));
        undone("setRate", net -> net.setRate(0, 5));
        undone("!setRate", net -> net.setRate(0, 120));
        undone("setBudget", net -> net.setBudget(1, 5));
        undone("!setBudget", net -> net.setBudget(1, 0));
        undone("set", net -> net.set(2, 5));
        undone("!set", net -> net.set(2, 1));
        undone("inject", net -> net.inject(1, 10));
        undone("flush", net -> net.flush(0, 3));
        undone("!flush", net -> net.flush(3, 0));
        undone("resetShadows", PressureNet::resetShadows);
        undone("run", net -> net.run(20));
    }

    private static void sixAtMost() {
        PressureNet net = new PressureNet();
        for (int i = 1; i < 10; i++) {
            net.setRate(0, i);
            Expect.same("undoCount", net.undoCount(), Math.min(6, i));
        }
        for (int i = 9; i > 3; i--) {
            Expect.same("undo", net.undo(), i - 4);
            Expect.same("undoCount", net.undoCount(), i - 4);
            Expect.same("rate", net.flow(0, 2), i - 1);
        }
        Expect.fails("a seventh", Expect.STATE, net::undo);
        Expect.same("rate", net.flow(0, 2), 3);
        net.setRate(0, 77);
        Expect.same("undo of a new change", net.undo(), 0);
        Expect.same("rate", net.flow(0, 2), 3);
    }

    private static void whatIsNoChange() {
        PressureNet net = Expect.net(TEXT);
        net.inject(0, 3);
        long before = print(net);
        net.append(1, 2, 3, 4, 5);
        net.truncate(0);
        net.errorPosition();
        net.save();
        net.forecast(5, 2);
        net.forecastFlow(0, 5, 6);
        net.slotsToFull(50, 1);
        net.bestBias(5);
        net.bestExcess(5);
        net.bestSettings(5);
        net.sustainable(0, 5);
        net.schedule(1);
        net.scheduleWeight(0);
        net.overloaded();
        net.maxFlow(0, 3);
        net.cutSide(0, 3);
        net.urgent();
        net.fullest();
        Expect.same("nothing changed", print(net), before);
        Expect.same("one change", net.undoCount(), 1);
    }

    private static void failedCalls() {
        PressureNet net = Expect.net(TEXT);
        net.inject(0, 3);
        long before = print(net);
        Expect.fails("run", Expect.ARGUMENT, () -> net.run(99));
        Expect.fails("load", Expect.ARGUMENT, net::load);
        Expect.fails("restore", Expect.STATE, net::restore);
        Expect.fails("addLink", Expect.STATE, () -> net.addLink(0, 1, 1));
        Expect.fails("slotsToFull", Expect.ELEMENT, () -> net.slotsToFull(1, 500));
        Expect.same("nothing changed", print(net), before);
        Expect.same("one change", net.undoCount(), 1);
        Expect.same("which is undone", net.undo(), 0);
        Expect.same("queue", net.queue(0, 3), 0);
    }

    private static void saveAndRestore() {
        PressureNet net = Expect.net(TEXT);
        Expect.fails("no copy", Expect.STATE, net::restore);
        net.run(5);
        PressureNet twin = Expect.net(TEXT);
        twin.run(5);
        long first = print(twin);
        Expect.same("save", net.save(), 5);
        net.addLink(3, 2, 2);
        net.addFlow(3, 2, 100, 0);
        net.inject(0, 90);
        net.run(8);
        Expect.append(net, "net 2");
        Expect.same("undo first", net.undo(), 4);
        net.run(9);
        Expect.same("restore", net.restore(), 5);
        Expect.same("state", print(net), first);
        Expect.same("the history is cleared", net.undoCount(), 0);
        Expect.fails("nothing to undo", Expect.STATE, net::undo);
        Expect.same("the buffer is kept", net.append(0, 0, 0, 0, 0), 5);
        net.run(3);
        Expect.same("restore again", net.restore(), 5);
        for (int what = 0; what < 6; what++) {
            Expect.same("total again " + what, net.total(what), twin.total(what));
        }
        net.run(2);
        Expect.same("save in place of it", net.save(), 7);
        twin.run(2);
        long second = print(twin);
        net.run(2);
        Expect.same("restore the later", net.restore(), 7);
        Expect.same("state", print(net), second);
        Expect.same("load", net.load(), 0);
        Expect.fails("no copy behind load", Expect.STATE, net::restore);
    }

    private static void undoKeepsOthers() {
        PressureNet net = Expect.net(TEXT);
        net.inject(1, 2);
        net.run(1);
        Expect.same("save leaves the history", net.save(), 1);
        Expect.same("undoCount", net.undoCount(), 2);
        Expect.append(net, "net 3");
        Expect.same("undo", net.undo(), 1);
        Expect.same("slot", net.total(0), 0);
        Expect.same("the buffer is kept", net.append(0, 0, 0, 0, 0), 5);
        Expect.same("undo", net.undo(), 0);
        Expect.same("the copy is kept", net.restore(), 1);
        Expect.same("queue of the copy", net.flow(1, 4), 2);
    }
}
