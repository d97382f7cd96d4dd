/**
 * A net that can be made again and again. A refused call is made on one of the twins and not on
 * the other; whatever can be asked of the two must then be alike. Each look is one at a part of a
 * new twin, because no object is used for more than 512 calls.
 */
final class Twins {
    interface Maker {
        PressureNet make();
    }

    interface Call {
        long on(PressureNet net);
    }

    interface With {
        long on(PressureNet net, int value);
    }

    /** The times below this one are how many changes are undone. */
    private static final int RESTORED = 7;
    private static final int RUN_ON = 8;
    private static final int LOADED = 9;
    private static final int BUFFER = 10;
    /** At each time a look at the numbers and one at the queues; at the buffer there is one look only. */
    private static final int PARTS = 2;
    private static final int VIEWS = BUFFER * PARTS + 1;

    private final Maker maker;
    private final String[] due = new String[VIEWS];

    Twins(Maker maker) {
        this.maker = maker;
        for (int view = 0; view < VIEWS; view++) {
            due[view] = see(maker.make(), view);
        }
    }

    /** The call throws this very exception, and nothing has changed afterwards. */
    void refuses(String what, Class<? extends RuntimeException> exception, Call call) {
        for (int view = 0; view < VIEWS; view++) {
            PressureNet net = maker.make();
            Expect.fails(what, exception, () -> call.on(net));
            Expect.alike(what + " was refused, view " + view, see(net, view), due[view]);
        }
    }

    void refusesEach(String what, Class<? extends RuntimeException> exception, int[] values, With call) {
        for (int value : values) {
            refuses(what + " " + value, exception, net -> call.on(net, value));
        }
    }

    /** The call is not refused; its answer is this one. */
    void takes(String what, long answer, Call call) {
        Expect.same(what, call.on(maker.make()), answer);
    }

    void takesEach(String what, long answer, int[] values, With call) {
        for (int value : values) {
            takes(what + " " + value, answer, net -> call.on(net, value));
        }
    }

    /** The call is not refused, but it leaves everything as it was: it only asks. */
    void asks(String what, long answer, Call call) {
        for (int view = 0; view < VIEWS; view++) {
            PressureNet net = maker.make();
            Expect.same(what, call.on(net), answer);
            Expect.alike(what + " only asks, view " + view, see(net, view), due[view]);
        }
    }

    /** The first values beyond a range, and some that only a cut or a shift would bring into it. */
    static int[] outside(int low, int high) {
        return new int[] {low - 1, high + 1, low - 64, low + 512, low + 65536, Integer.MIN_VALUE + low,
            Integer.MIN_VALUE, Integer.MAX_VALUE};
    }

    static int[] values(int... values) {
        return values;
    }

    private static String see(PressureNet net, int view) {
        int part = view % PARTS;
        switch (view / PARTS) {
            case RESTORED:
                return restored(net) + part(net, part);
            case RUN_ON:
                return runOn(net) + part(net, part);
            case LOADED:
                return loaded(net) + part(net, part);
            case BUFFER:
                return buffer(net);
            default:
                return undone(net, view / PARTS) + part(net, part);
        }
    }

    private static String part(PressureNet net, int part) {
        return part == 0 ? numbers(net) : queues(net);
    }

    private static String undone(PressureNet net, int times) {
        int count = net.undoCount();
        StringBuilder out = new StringBuilder("can be undone ").append(count);
        for (int i = 0; i < Math.min(times, count); i++) {
            out.append(' ').append(net.undo());
        }
        return out.toString();
    }

    private static String restored(PressureNet net) {
        try {
            return "restored " + net.restore() + " " + net.undoCount();
        } catch (IllegalStateException e) {
            return "no copy";
        }
    }

    private static String runOn(PressureNet net) {
        try {
            return "run " + net.run(9);
        } catch (IllegalArgumentException e) {
            return "too late";
        }
    }

    private static String loaded(PressureNet net) {
        try {
            return "loaded " + net.load();
        } catch (IllegalArgumentException e) {
            return "bad text";
        }
    }

    private static String buffer(PressureNet net) {
        int length = net.append(0, 0, 0, 0, 0);
        StringBuilder out = new StringBuilder("bytes");
        int step = Math.max(1, length / 100);
        for (int left = length; left >= 0; left -= step) {
            out.append(' ').append(net.truncate(left)).append(' ').append(net.errorPosition());
        }
        return out.toString();
    }

    /** All that can be asked about the state; of a net of 4 nodes these are some 250 calls. */
    static String state(PressureNet net) {
        return numbers(net) + queues(net);
    }

    static String numbers(PressureNet net) {
        StringBuilder out = new StringBuilder("\ncounts");
        for (int what = 0; what < 7; what++) {
            out.append(' ').append(net.count(what));
        }
        out.append("\ntotals");
        for (int what = 0; what < 6; what++) {
            out.append(' ').append(net.total(what));
        }
        for (int k = net.count(1) - 1; k >= 0; k--) {
            out.append("\nlink ").append(net.conflicts(k));
            for (int what = 0; what < 8; what++) {
                out.append(' ').append(net.link(k, what));
            }
        }
        for (int k = net.count(2) - 1; k >= 0; k--) {
            out.append("\nflow");
            for (int what = 0; what < 11; what++) {
                out.append(' ').append(net.flow(k, what));
            }
        }
        return out.toString();
    }

    static String queues(PressureNet net) {
        StringBuilder out = new StringBuilder();
        int nodes = net.count(0);
        for (int n = 0; n < nodes; n++) {
            out.append("\nnode ").append(n);
            for (int d = 0; d < nodes; d++) {
                out.append(n == d ? " -" : queue(net, n, d, nodes > 5 ? 4 : 8));
            }
        }
        return out.toString();
    }

    /** The first packets of a queue, as many as told, and the last one. */
    private static String queue(PressureNet net, int node, int destination, int packets) {
        int length = net.queue(node, destination);
        StringBuilder out = new StringBuilder(" ").append(net.hops(node, destination));
        out.append(' ').append(length).append(' ').append(net.shadow(node, destination));
        for (int i = 0; i < length; i++) {
            for (int what = 0; what < 4 && (i < packets - 1 || i == length - 1); what++) {
                out.append(what == 0 ? '(' : ',').append(net.packet(node, destination, i, what));
            }
        }
        return out.toString();
    }

    private static final String BUSY = "net 4;link 0 1 2;link 1 2 1;link 2 3 1;link 3 0 5;link 1 0 1;conflict 0 1;"
        + "conflict 2 4;flow 0 3 120 budget 9;flow 1 0 30;flow 2 1 50;excess 20;bias 1";

    /** 4 nodes, 5 links, 3 flows, packets, 6 changes to undo, a saved copy, and 12 bytes in the buffer. */
    static PressureNet busy() {
        PressureNet net = Expect.net(BUSY);
        net.inject(0, 5);
        net.run(3);
        net.save();
        net.setCapacity(2, 2);
        net.inject(1, 3);
        net.run(2);
        net.setRate(2, 60);
        net.setConflict(3, 4, true);
        net.setBudget(1, 30);
        net.set(3, 1);
        Expect.append(net, "net 3;bias 7");
        return net;
    }

    /** The nodes, links and flows that there may be at most, without packets. */
    static PressureNet wide() {
        PressureNet net = Expect.net("net 10");
        for (int i = 0; i < 14; i++) {
            net.addLink(i % 10, (i + 1 + i / 10) % 10, i % 5 + 1);
        }
        for (int i = 0; i < 6; i++) {
            net.addFlow(i, 9, 0, 0);
        }
        return net;
    }

    /** As wide(), with 500 packets. */
    static PressureNet full() {
        PressureNet net = wide();
        for (int i = 0; i < 5; i++) {
            net.inject(i, 100);
        }
        return net;
    }

    /** In the slot 9950, on the way to 9999. */
    static PressureNet late() {
        PressureNet net = Expect.net("net 2;link 0 1 1;flow 0 1 1");
        for (int i = 0; i < 199; i++) {
            net.run(50);
        }
        return net;
    }
}
