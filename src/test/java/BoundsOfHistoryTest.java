/** Boundary cases of promises 17 to 20 and of section 7: one method for each sentence that names one. */
public final class BoundsOfHistoryTest extends Bounds {
    public static void main(String[] args) {
        nothingToUndo();
        sixCanBeUndone();
        theSeventhIsForgotten();
        thePastOf512Calls();
        undoneOnesAreForgotten();
        changesWithoutEffect();
        refusedCallsAreNoChanges();
        whatIsNoChange();
        restoreWithoutACopy();
        theCopyIsKept();
        anEarlierCopyIsReplaced();
        saveOfTheFirstSlot();
        bufferAndHistoryAreNotSaved();
        restoreClearsTheHistory();
        undoLeavesBufferAndCopy();
        undoOfAFullNet();
        Expect.end("BoundsOfHistoryTest");
    }

    private static void nothingToUndo() {
        NEW.refuses("undo of a new net", STATE, PressureNet::undo);
        NEW.asks("undoCount of a new net", 0, PressureNet::undoCount);
        new Twins(() -> Expect.net("net 2")).refuses("undo behind load", STATE, PressureNet::undo);
        new Twins(BoundsOfHistoryTest::allUndone).refuses("undo behind six", STATE, PressureNet::undo);
        new Twins(BoundsOfHistoryTest::restored).refuses("undo behind restore", STATE, PressureNet::undo);
    }

    private static PressureNet allUndone() {
        PressureNet net = Twins.busy();
        for (int left = 5; left >= 0; left--) {
            Expect.same("can still be undone", net.undo(), left);
        }
        return net;
    }

    private static PressureNet restored() {
        PressureNet net = Twins.busy();
        net.restore();
        return net;
    }

    private static PressureNet changed(int times) {
        PressureNet net = new PressureNet();
        for (int i = 0; i < times; i++) {
            Expect.same("before the change", net.undoCount(), i);
            net.run(2 * i + 1);
            Expect.same("behind the change", net.undoCount(), i + 1);
        }
        return net;
    }

    private static void sixCanBeUndone() {
        for (int times = 1; times <= 6; times++) {
            PressureNet net = changed(6);
            for (int left = 5; left >= 6 - times; left--) {
                Expect.same("undo", net.undo(), left);
                Expect.same("undoCount", net.undoCount(), left);
            }
            Expect.alike("state with " + times + " undone", Twins.state(net), Twins.state(changed(6 - times)));
            if (times == 6) {
                Expect.fails("a seventh", STATE, net::undo);
            }
        }
    }

    private static void theSeventhIsForgotten() {
        for (int changes = 7; changes <= 20; changes++) {
            PressureNet net = new PressureNet();
            for (int i = 1; i <= changes; i++) {
                net.setRate(0, i);
            }
            Expect.same("6 of " + changes, net.undoCount(), 6);
            for (int i = 1; i <= 6; i++) {
                net.undo();
                Expect.same("rate", net.flow(0, 2), changes - i);
            }
            Expect.same("none is left", net.undoCount(), 0);
            Expect.fails("a seventh", STATE, net::undo);
            Expect.same("the rate stays", net.flow(0, 2), changes - 6);
        }
    }

    /** An object is used for 512 calls at most: the last of them are answered as the first ones. */
    private static void thePastOf512Calls() {
        PressureNet net = new PressureNet();
        for (int call = 1; call <= 504; call++) {
            Expect.same("the rate before", net.setRate(0, call % 301), call == 1 ? 50 : (call - 1) % 301);
        }
        for (int left = 5; left >= 0; left--) {
            Expect.same("undo", net.undo(), left);
        }
        Expect.fails("the 511th call", STATE, net::undo);
        Expect.same("the 512th call", net.flow(0, 2), 498 % 301);
    }

    private static void undoneOnesAreForgotten() {
        PressureNet net = new PressureNet();
        for (int i = 1; i <= 8; i++) {
            net.setRate(0, i);
        }
        net.undo();
        net.undo();
        net.setRate(0, 60);
        Expect.same("4 and the new one", net.undoCount(), 5);
        int[] due = {6, 5, 4, 3, 2};
        for (int i = 0; i < 5; i++) {
            Expect.same("undo", net.undo(), 4 - i);
            Expect.same("rate", net.flow(0, 2), due[i]);
        }
        net.setRate(0, 70);
        Expect.same("one", net.undoCount(), 1);
    }

    private static void changesWithoutEffect() {
        changes("setCapacity", net -> net.setCapacity(0, 2));
        changes("setConflict on", net -> net.setConflict(0, 1, true) ? 1 : 0);
        changes("setConflict off", net -> net.setConflict(0, 2, false) ? 1 : 0);
        changes("setRate", net -> net.setRate(0, 120));
        changes("setBudget", net -> net.setBudget(0, 9));
        int[] settings = {0, 20, 1, 0};
        for (int what = 0; what < 4; what++) {
            int w = what;
            changes("set " + w, net -> net.set(w, settings[w]));
        }
        changes("flush", net -> net.flush(3, 0));
        PressureNet net = Expect.net("net 2");
        String before = Twins.state(net);
        net.resetShadows();
        Expect.same("resetShadows", net.undoCount(), 1);
        Expect.alike("without effect", Twins.state(net), before);
        Expect.same("undo", net.undo(), 0);
        Expect.alike("undone without effect", Twins.state(net), before);
    }

    private static PressureNet fiveLeft() {
        PressureNet net = Twins.busy();
        net.undo();
        return net;
    }

    /** The call has no effect, but it is one of the changes all the same. */
    private static void changes(String what, Twins.Call call) {
        String before = Twins.state(fiveLeft());
        PressureNet net = fiveLeft();
        call.on(net);
        Expect.same(what + " is a change", net.undoCount(), 6);
        Expect.alike(what + " has no effect", Twins.state(net), before);
        PressureNet back = fiveLeft();
        call.on(back);
        Expect.same("undo of " + what, back.undo(), 5);
        Expect.alike(what + " undone", Twins.state(back), before);
        Expect.same("undo of the change before", back.undo(), 4);
    }

    private static void refusedCallsAreNoChanges() {
        PressureNet net = Expect.net("net 10");
        Expect.fails("addLink", INDEX, () -> net.addLink(0, 10, 1));
        Expect.fails("addFlow", ARGUMENT, () -> net.addFlow(0, 1, 301, 1));
        Expect.fails("setCapacity", INDEX, () -> net.setCapacity(0, 1));
        Expect.fails("setConflict", INDEX, () -> net.setConflict(0, 1, true) ? 1 : 0);
        Expect.fails("setRate", INDEX, () -> net.setRate(0, 1));
        Expect.fails("setBudget", INDEX, () -> net.setBudget(0, 1));
        Expect.fails("set", ARGUMENT, () -> net.set(2, 21));
        Expect.fails("inject", INDEX, () -> net.inject(0, 1));
        Expect.fails("flush", ARGUMENT, () -> net.flush(1, 1));
        Expect.fails("run", ARGUMENT, () -> net.run(51));
        Expect.same("no changes", net.undoCount(), 0);
        Expect.fails("nothing to undo", STATE, net::undo);
    }

    private static void whatIsNoChange() {
        BUSY.asks("undoCount", 6, PressureNet::undoCount);
        BUSY.asks("append of nothing", 12, net -> net.append(0, 0, 0, 0, 0));
        BUSY.asks("errorPosition", PressureNet.NONE, PressureNet::errorPosition);
        PressureNet net = Twins.busy();
        net.save();
        net.append(1, 2, 3, 4, 5);
        net.truncate(0);
        Expect.same("save, append and truncate are none", net.undoCount(), 6);
        Expect.same("undo is none", net.undo(), 5);
    }

    private static void restoreWithoutACopy() {
        NEW.refuses("restore of a new net", STATE, PressureNet::restore);
        new Twins(BoundsOfHistoryTest::loadedOver).refuses("restore behind load", STATE, PressureNet::restore);
        new Twins(BoundsOfHistoryTest::neverSaved).refuses("restore with a history", STATE, PressureNet::restore);
    }

    private static PressureNet loadedOver() {
        PressureNet net = Twins.busy();
        net.load();
        net.run(1);
        return net;
    }

    private static PressureNet neverSaved() {
        PressureNet net = new PressureNet();
        net.run(4);
        net.inject(0, 2);
        Expect.append(net, "net 2");
        return net;
    }

    private static void theCopyIsKept() {
        PressureNet net = restored();
        net.addLink(0, 2, 1);
        net.inject(0, 100);
        net.run(7);
        Expect.same("restore again", net.restore(), 3);
        Expect.alike("the same", Twins.state(net), Twins.state(restored()));
        PressureNet twice = restored();
        Expect.same("restore at once again", twice.restore(), 3);
        Expect.alike("the same", Twins.state(twice), Twins.state(restored()));
    }

    private static void anEarlierCopyIsReplaced() {
        PressureNet net = Twins.busy();
        Expect.same("save", net.save(), 5);
        net.run(1);
        Expect.same("restore", net.restore(), 5);
        Expect.alike("the later one", Twins.state(net), Twins.state(Twins.busy()));
    }

    private static void saveOfTheFirstSlot() {
        PressureNet net = new PressureNet();
        Expect.same("save", net.save(), 0);
        String first = Twins.state(net);
        net.run(50);
        Expect.same("restore", net.restore(), 0);
        Expect.alike("as new", Twins.state(net), first);
        Expect.same("the peak, too", net.total(2), 0);
    }

    private static void bufferAndHistoryAreNotSaved() {
        PressureNet net = new PressureNet();
        Expect.append(net, "net 2");
        net.run(1);
        net.save();
        Expect.same("the history stays behind save", net.undoCount(), 1);
        net.truncate(3);
        net.restore();
        Expect.same("the buffer is as it was", net.append(0, 0, 0, 0, 0), 3);
        Expect.same("its text, too", net.errorPosition(), 3);
        Expect.same("no history comes back", net.undoCount(), 0);
    }

    private static void restoreClearsTheHistory() {
        PressureNet net = Twins.busy();
        net.restore();
        Expect.same("none", net.undoCount(), 0);
        Expect.fails("nothing to undo", STATE, net::undo);
        net.setRate(0, 7);
        Expect.same("one", net.undoCount(), 1);
        Expect.same("undo", net.undo(), 0);
        Expect.fails("restore cannot be undone", STATE, net::undo);
        Expect.same("slot", net.total(0), 3);
    }

    private static void undoLeavesBufferAndCopy() {
        PressureNet net = allUndone();
        Expect.same("the buffer", net.append(0, 0, 0, 0, 0), 12);
        Expect.same("its text", net.errorPosition(), PressureNet.NONE);
        Expect.same("the copy", net.restore(), 3);
        PressureNet twin = Twins.busy();
        twin.restore();
        Expect.alike("the same copy", Twins.state(net), Twins.state(twin));
    }

    private static PressureNet fullAgain() {
        PressureNet net = Twins.full();
        net.inject(5, 100);
        net.flush(0, 9);
        net.setBudget(1, 1);
        net.run(50);
        net.inject(5, 100);
        net.flush(5, 9);
        Expect.same("6 changes", net.undoCount(), 6);
        for (int i = 0; i < 6; i++) {
            net.undo();
        }
        return net;
    }

    /** Packets that were lost, flushed, delivered or expired are there again as they were. */
    private static void undoOfAFullNet() {
        Expect.alike("numbers, all undone", Twins.numbers(fullAgain()), Twins.numbers(Twins.full()));
        Expect.alike("queues, all undone", Twins.queues(fullAgain()), Twins.queues(Twins.full()));
        PressureNet net = fullAgain();
        Expect.same("it is full", net.inject(5, 1), 0);
        for (int n = 0; n < 5; n++) {
            Expect.same("the last packet of " + n, net.packet(n, 9, 99, 0), n);
            int node = n;
            Expect.fails("no packet behind it", ELEMENT, () -> net.packet(node, 9, 100, 0));
        }
    }
}
