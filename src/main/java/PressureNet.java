import java.util.Arrays;
import java.util.NoSuchElementException;

/** Backpressure routing in a packet network; ../shared/DOC.md is its document. */
public final class PressureNet {
    public static final int NONE = -1;

    private static final int MIN_NODES = 2;
    private static final int MAX_NODES = 10;
    private static final int MAX_LINKS = 14;
    private static final int MAX_CAPACITY = 5;
    private static final int MAX_FLOWS = 6;
    private static final int MAX_RATE = 300;
    private static final int MAX_BUDGET = 200;
    private static final int MAX_PACKETS = 500;
    private static final int MAX_INJECTION = 100;
    private static final int MAX_SLOTS = 50;
    private static final int MAX_SLOT = 9999;
    private static final int MAX_TEXT = 700;
    private static final int MAX_CONFLICT_STATEMENTS = 40;
    private static final int MAX_UNDO = 6;
    private static final int SUSTAINED_SLOTS = 20;
    private static final int SUSTAINED_PACKETS = 100;

    /** Queues and distances are rows of MAX_NODES, so that a net may have any number of nodes. */
    private static final int PAIRS = MAX_NODES * MAX_NODES;

    private static final int MODE = 0;
    private static final int EXCESS = 1;
    private static final int BIAS = 2;
    private static final int SCHEDULER = 3;
    private static final int SETTINGS = 4;
    private static final int[] GREATEST_SETTING = {1, 50, 20, 1};
    private static final int FIRST_EXCESS = 10;
    private static final int EXCESS_STEP = 10;

    /** The numbers of a flow stand in the order in which flow() tells them. */
    private static final int SOURCE = 0;
    private static final int DESTINATION = 1;
    private static final int RATE = 2;
    private static final int BUDGET = 3;
    private static final int ARRIVED = 4;
    private static final int LOST = 5;
    private static final int DELIVERED = 6;
    private static final int EXPIRED = 7;
    private static final int LOOPS = 8;
    private static final int DELAYS = 9;
    private static final int LONGEST_DELAY = 10;
    private static final int FLOW_NUMBERS = 11;

    private static final int TOTALS = 6;
    private static final int COUNTS = 7;
    private static final int LINK_NUMBERS = 8;
    private static final int PACKET_PARTS = 4;

    private final State now = new State();
    private final State saved = new State();
    private final State ahead = new State();
    private final History history = new History();
    private final SetupText input = new SetupText();
    private final SlotRunner runner = new SlotRunner();
    private final Cut cut = new Cut();
    private boolean hasSaved;

    public PressureNet() {
        now.net.clear(3);
        now.net.putLink(0, 1, 1);
        now.net.putLink(1, 2, 1);
        now.net.putFlow(0, 2, 50, 0);
    }

    // ---- Input

    public int append(int a, int b, int c, int d, int e) throws IllegalStateException {
        int added = countBytes(a) + countBytes(b) + countBytes(c) + countBytes(d) + countBytes(e);
        if (input.length + added > MAX_TEXT) {
            throw new IllegalStateException("the input buffer would be too long");
        }
        input.putBytes(a);
        input.putBytes(b);
        input.putBytes(c);
        input.putBytes(d);
        input.putBytes(e);
        return input.length;
    }

    private static int countBytes(int word) {
        int bytes = 0;
        for (int shift = 24; shift >= 0; shift -= 8) {
            if (((word >>> shift) & 255) != 0) {
                bytes++;
            }
        }
        return bytes;
    }

    public int truncate(int length) throws IllegalArgumentException {
        checkRange(length, 0, input.length);
        input.length = length;
        return length;
    }

    public int errorPosition() {
        return input.read();
    }

    public int load() throws IllegalArgumentException {
        if (input.read() != NONE) {
            throw new IllegalArgumentException("the setup text is not valid");
        }
        now.begin(input.net);
        input.length = 0;
        history.changes = 0;
        hasSaved = false;
        return now.net.links;
    }

    // ---- Changes

    public int addLink(int from, int to, int capacity)
            throws IndexOutOfBoundsException, IllegalArgumentException, IllegalStateException {
        checkTwoNodes(from, to);
        checkRange(capacity, 1, MAX_CAPACITY);
        if (now.net.links >= MAX_LINKS || now.net.findLink(from, to) != NONE) {
            throw new IllegalStateException("there is such a link, or there are too many links");
        }
        history.remember(now);
        now.net.putLink(from, to, capacity);
        return now.net.links - 1;
    }

    public int setCapacity(int link, int capacity)
            throws IndexOutOfBoundsException, IllegalArgumentException {
        checkLink(link);
        checkRange(capacity, 1, MAX_CAPACITY);
        history.remember(now);
        int before = now.net.capacity[link];
        now.net.capacity[link] = capacity;
        return before;
    }

    public boolean setConflict(int link, int other, boolean conflict)
            throws IndexOutOfBoundsException, IllegalArgumentException {
        checkLink(link);
        checkLink(other);
        if (link == other) {
            throw new IllegalArgumentException("a link is in no conflict with itself");
        }
        history.remember(now);
        boolean before = now.net.inConflict(link, other);
        now.net.putConflict(link, other, conflict);
        return before;
    }

    public int addFlow(int source, int destination, int rate, int budget)
            throws IndexOutOfBoundsException, IllegalArgumentException, IllegalStateException {
        checkTwoNodes(source, destination);
        checkRange(rate, 0, MAX_RATE);
        checkRange(budget, 0, MAX_BUDGET);
        if (now.net.flows >= MAX_FLOWS) {
            throw new IllegalStateException("there are too many flows");
        }
        history.remember(now);
        now.net.putFlow(source, destination, rate, budget);
        return now.net.flows - 1;
    }

    public int setRate(int flow, int rate)
            throws IndexOutOfBoundsException, IllegalArgumentException {
        checkFlow(flow);
        checkRange(rate, 0, MAX_RATE);
        return replaceNumber(flow, RATE, rate);
    }

    public int setBudget(int flow, int budget)
            throws IndexOutOfBoundsException, IllegalArgumentException {
        checkFlow(flow);
        checkRange(budget, 0, MAX_BUDGET);
        return replaceNumber(flow, BUDGET, budget);
    }

    private int replaceNumber(int flow, int what, int value) {
        history.remember(now);
        int before = now.net.getNumber(flow, what);
        now.net.putNumber(flow, what, value);
        return before;
    }

    public int set(int what, int value) throws IllegalArgumentException {
        checkRange(what, 0, SETTINGS - 1);
        checkRange(value, 0, GREATEST_SETTING[what]);
        history.remember(now);
        int before = now.net.settings[what];
        now.net.settings[what] = value;
        return before;
    }

    public int inject(int flow, int packets)
            throws IndexOutOfBoundsException, IllegalArgumentException {
        checkFlow(flow);
        checkRange(packets, 1, MAX_INJECTION);
        history.remember(now);
        return now.arrive(flow, packets);
    }

    public int flush(int node, int destination)
            throws IndexOutOfBoundsException, IllegalArgumentException {
        checkTwoNodes(node, destination);
        history.remember(now);
        return now.loseAll(pair(node, destination));
    }

    public int resetShadows() {
        history.remember(now);
        int before = (int) sum(now.queues.shadow);
        Arrays.fill(now.queues.shadow, 0);
        return before;
    }

    public int run(int slots) throws IllegalArgumentException {
        checkRange(slots, 1, MAX_SLOTS);
        if (now.slot + slots > MAX_SLOT) {
            throw new IllegalArgumentException("the slot would be too great");
        }
        history.remember(now);
        runner.passSlots(now, slots);
        return now.queues.packets;
    }

    // ---- History

    public int undo() throws IllegalStateException {
        if (history.changes == 0) {
            throw new IllegalStateException("there is no change to undo");
        }
        history.takeBack(now);
        return history.changes;
    }

    public int undoCount() {
        return history.changes;
    }

    public int save() {
        saved.copyFrom(now);
        hasSaved = true;
        return now.slot;
    }

    public int restore() throws IllegalStateException {
        if (!hasSaved) {
            throw new IllegalStateException("there is no saved copy");
        }
        now.copyFrom(saved);
        history.changes = 0;
        return now.slot;
    }

    // ---- Net

    public int count(int what) throws IllegalArgumentException {
        checkRange(what, 0, COUNTS - 1);
        switch (what) {
            case 0:
                return now.net.nodes;
            case 1:
                return now.net.links;
            case 2:
                return now.net.flows;
            default:
                return now.net.settings[what - 3];
        }
    }

    public int link(int link, int what) throws IndexOutOfBoundsException, IllegalArgumentException {
        checkLink(link);
        checkRange(what, 0, LINK_NUMBERS - 1);
        switch (what) {
            case 0:
                return now.net.from[link];
            case 1:
                return now.net.to[link];
            case 2:
                return now.net.capacity[link];
            case 3:
                return now.net.carried[link];
            default:
                return plannedNumber(link, what);
        }
    }

    private int plannedNumber(int link, int what) {
        Plan plan = runner.plan;
        int chosen = plan.choose(now, now.net.settings[SCHEDULER]);
        switch (what) {
            case 4:
                return plan.commodity[link];
            case 5:
                return plan.weight[link];
            case 6:
                return (chosen >> link) & 1;
            default:
                return plan.countCarried(now, chosen, link);
        }
    }

    public int conflicts(int link) throws IndexOutOfBoundsException {
        checkLink(link);
        return now.net.conflicts[link];
    }

    public int flow(int flow, int what) throws IndexOutOfBoundsException, IllegalArgumentException {
        checkFlow(flow);
        checkRange(what, 0, FLOW_NUMBERS - 1);
        return now.net.getNumber(flow, what);
    }

    public int hops(int node, int destination) throws IndexOutOfBoundsException {
        checkNode(node);
        checkNode(destination);
        return now.net.distance[pair(node, destination)];
    }

    public int maxFlow(int from, int to)
            throws IndexOutOfBoundsException, IllegalArgumentException {
        checkTwoNodes(from, to);
        cut.find(now.net, from, to);
        return cut.packets;
    }

    public int cutSide(int from, int to)
            throws IndexOutOfBoundsException, IllegalArgumentException {
        checkTwoNodes(from, to);
        cut.find(now.net, from, to);
        return cut.side;
    }

    public int overloaded() {
        Net net = now.net;
        int set = 0;
        for (int flow = 0; flow < net.flows; flow++) {
            cut.find(net, net.getNumber(flow, SOURCE), net.getNumber(flow, DESTINATION));
            if (net.getNumber(flow, RATE) > 100 * cut.packets) {
                set |= 1 << flow;
            }
        }
        return set;
    }

    // ---- Queues

    public int queue(int node, int destination)
            throws IndexOutOfBoundsException, IllegalArgumentException {
        checkTwoNodes(node, destination);
        return now.queues.length[pair(node, destination)];
    }

    public int shadow(int node, int destination)
            throws IndexOutOfBoundsException, IllegalArgumentException {
        checkTwoNodes(node, destination);
        return now.queues.shadow[pair(node, destination)];
    }

    public int packet(int node, int destination, int index, int what)
            throws IndexOutOfBoundsException, IllegalArgumentException, NoSuchElementException {
        checkTwoNodes(node, destination);
        checkRange(what, 0, PACKET_PARTS - 1);
        int packet = now.queues.find(pair(node, destination), index);
        if (packet == NONE) {
            throw new NoSuchElementException("there is no such packet");
        }
        switch (what) {
            case 0:
                return now.queues.flow[packet];
            case 1:
                return now.queues.arrival[packet];
            case 2:
                return now.queues.carriers[packet];
            default:
                return now.queues.visited[packet];
        }
    }

    public long total(int what) throws IllegalArgumentException {
        checkRange(what, 0, TOTALS - 1);
        return totalOf(now, what);
    }

    private static long totalOf(State state, int what) {
        switch (what) {
            case 0:
                return state.slot;
            case 1:
                return state.queues.packets;
            case 2:
                return state.peak;
            case 3:
                return sum(state.queues.shadow);
            case 4:
                return sumOfSquares(state.queues.length);
            default:
                return sumOfSquares(state.queues.shadow);
        }
    }

    public int fullest() throws NoSuchElementException {
        int[] length = now.queues.length;
        int most = 0;
        for (int pair = 1; pair < PAIRS; pair++) {
            if (length[pair] > length[most]) {
                most = pair;
            }
        }
        if (length[most] == 0) {
            throw new NoSuchElementException("all queues are empty");
        }
        return 100 * (most / MAX_NODES) + most % MAX_NODES;
    }

    public int urgent() throws NoSuchElementException {
        int least = now.leastDeadline();
        if (least == NONE) {
            throw new NoSuchElementException("there is no packet with a budget");
        }
        return Math.max(0, least - now.slot);
    }

    public int meanDelay(int flow, boolean denominator)
            throws IndexOutOfBoundsException, NoSuchElementException {
        checkFlow(flow);
        int delays = now.net.getNumber(flow, DELAYS);
        int delivered = now.net.getNumber(flow, DELIVERED);
        int divisor = commonDivisor(delays, delivered);
        if (delivered == 0 || divisor == 0) {
            throw new NoSuchElementException("no packet was delivered");
        }
        return denominator ? delivered / divisor : delays / divisor;
    }

    private static int commonDivisor(int a, int b) {
        int greater = a;
        int smaller = b;
        // Euclid takes fewer than 50 steps on ints.
        for (int step = 0; step < 100 && smaller != 0; step++) {
            int rest = greater % smaller;
            greater = smaller;
            smaller = rest;
        }
        return greater;
    }

    // ---- Schedules

    public int schedule(int scheduler) throws IllegalArgumentException {
        checkRange(scheduler, 0, GREATEST_SETTING[SCHEDULER]);
        return runner.plan.choose(now, scheduler);
    }

    public int scheduleWeight(int scheduler) throws IllegalArgumentException {
        checkRange(scheduler, 0, GREATEST_SETTING[SCHEDULER]);
        return Plan.sumOfWeights(runner.plan.choose(now, scheduler), runner.plan.weight);
    }

    // ---- Looking ahead

    public long forecast(int slots, int what) throws IllegalArgumentException {
        checkRange(slots, 1, MAX_SLOTS);
        checkRange(what, 0, TOTALS - 1);
        ahead.copyFrom(now);
        runner.passSlots(ahead, slots);
        return totalOf(ahead, what);
    }

    public int forecastFlow(int flow, int slots, int what)
            throws IndexOutOfBoundsException, IllegalArgumentException {
        checkFlow(flow);
        checkRange(slots, 1, MAX_SLOTS);
        checkRange(what, 0, FLOW_NUMBERS - 1);
        ahead.copyFrom(now);
        runner.passSlots(ahead, slots);
        return ahead.net.getNumber(flow, what);
    }

    public int slotsToFull(int slots, int packets)
            throws IllegalArgumentException, NoSuchElementException {
        checkRange(slots, 1, MAX_SLOTS);
        checkRange(packets, 1, MAX_PACKETS);
        ahead.copyFrom(now);
        for (int passed = 0; passed <= slots; passed++) {
            if (ahead.queues.packets >= packets) {
                return passed;
            }
            if (passed < slots) {
                runner.passSlot(ahead);
            }
        }
        throw new NoSuchElementException("there are not so many packets within so many slots");
    }

    public int bestBias(int slots) throws IllegalArgumentException {
        checkRange(slots, 1, MAX_SLOTS);
        int best = 0;
        int fewestPackets = 0;
        int fewestLoops = 0;
        for (int bias = 0; bias <= GREATEST_SETTING[BIAS]; bias++) {
            ahead.copyFrom(now);
            ahead.net.settings[BIAS] = bias;
            runner.passSlots(ahead, slots);
            int packets = ahead.queues.packets;
            int loops = ahead.net.sumNumber(LOOPS);
            if (bias == 0 || packets < fewestPackets
                    || packets == fewestPackets && loops < fewestLoops) {
                best = bias;
                fewestPackets = packets;
                fewestLoops = loops;
            }
        }
        return best;
    }

    public int bestExcess(int slots) throws IllegalArgumentException {
        checkRange(slots, 1, MAX_SLOTS);
        int best = 0;
        int most = NONE;
        for (int excess = 0; excess <= GREATEST_SETTING[EXCESS]; excess += EXCESS_STEP) {
            ahead.copyFrom(now);
            ahead.net.settings[MODE] = 1;
            ahead.net.settings[EXCESS] = excess;
            runner.passSlots(ahead, slots);
            int delivered = ahead.net.sumNumber(DELIVERED);
            if (delivered > most) {
                best = excess;
                most = delivered;
            }
        }
        return best;
    }

    public int bestSettings(int slots) throws IllegalArgumentException {
        checkRange(slots, 1, MAX_SLOTS);
        int best = NONE;
        long least = 0;
        for (int mode = 0; mode <= GREATEST_SETTING[MODE]; mode++) {
            for (int scheduler = 0; scheduler <= GREATEST_SETTING[SCHEDULER]; scheduler++) {
                ahead.copyFrom(now);
                ahead.net.settings[MODE] = mode;
                ahead.net.settings[SCHEDULER] = scheduler;
                runner.passSlots(ahead, slots);
                long squares = sumOfSquares(ahead.queues.length);
                if (best == NONE || squares < least) {
                    best = 10 * mode + scheduler;
                    least = squares;
                }
            }
        }
        return best;
    }

    public int sustainable(int flow, int slots)
            throws IndexOutOfBoundsException, IllegalArgumentException {
        checkFlow(flow);
        checkRange(slots, 1, SUSTAINED_SLOTS);
        int greatest = NONE;
        for (int rate = 0; rate <= MAX_RATE; rate++) {
            if (!staysSmall(flow, rate, slots)) {
                return greatest;
            }
            greatest = rate;
        }
        return greatest;
    }

    private boolean staysSmall(int flow, int rate, int slots) {
        ahead.copyFrom(now);
        ahead.net.putNumber(flow, RATE, rate);
        for (int passed = 0; passed < slots; passed++) {
            runner.passSlot(ahead);
            if (ahead.queues.packets > SUSTAINED_PACKETS) {
                return false;
            }
        }
        return true;
    }

    // ---- Checks and sums

    private static void checkRange(int value, int low, int high) {
        if (value < low || value > high) {
            throw new IllegalArgumentException("a value is out of its range");
        }
    }

    private void checkNode(int node) {
        if (node < 0 || node >= now.net.nodes) {
            throw new IndexOutOfBoundsException("there is no such node");
        }
    }

    private void checkTwoNodes(int node, int other) {
        checkNode(node);
        checkNode(other);
        if (node == other) {
            throw new IllegalArgumentException("both are the same node");
        }
    }

    private void checkLink(int link) {
        if (link < 0 || link >= now.net.links) {
            throw new IndexOutOfBoundsException("there is no such link");
        }
    }

    private void checkFlow(int flow) {
        if (flow < 0 || flow >= now.net.flows) {
            throw new IndexOutOfBoundsException("there is no such flow");
        }
    }

    private static int pair(int node, int destination) {
        return node * MAX_NODES + destination;
    }

    private static long sum(int[] values) {
        long sum = 0;
        for (int value : values) {
            sum += value;
        }
        return sum;
    }

    private static long sumOfSquares(int[] values) {
        long sum = 0;
        for (int value : values) {
            sum += (long) value * value;
        }
        return sum;
    }

    private static void copyRow(int[] source, int[] target, int length) {
        System.arraycopy(source, 0, target, 0, length);
    }

    /** Nodes, links, flows with their numbers, and settings. */
    private static final class Net {
        int nodes;
        int links;
        int flows;
        final int[] from = new int[MAX_LINKS];
        final int[] to = new int[MAX_LINKS];
        final int[] capacity = new int[MAX_LINKS];
        final int[] carried = new int[MAX_LINKS];
        final int[] conflicts = new int[MAX_LINKS];
        final int[] settings = new int[SETTINGS];
        final int[] numbers = new int[MAX_FLOWS * FLOW_NUMBERS];
        final int[] distance = new int[PAIRS];

        void clear(int count) {
            nodes = count;
            links = 0;
            flows = 0;
            Arrays.fill(settings, 0);
            settings[EXCESS] = FIRST_EXCESS;
            Arrays.fill(distance, count);
            for (int node = 0; node < count; node++) {
                distance[pair(node, node)] = 0;
            }
        }

        void copyFrom(Net other) {
            nodes = other.nodes;
            links = other.links;
            flows = other.flows;
            copyRow(other.from, from, MAX_LINKS);
            copyRow(other.to, to, MAX_LINKS);
            copyRow(other.capacity, capacity, MAX_LINKS);
            copyRow(other.carried, carried, MAX_LINKS);
            copyRow(other.conflicts, conflicts, MAX_LINKS);
            copyRow(other.settings, settings, SETTINGS);
            copyRow(other.numbers, numbers, MAX_FLOWS * FLOW_NUMBERS);
            copyRow(other.distance, distance, PAIRS);
        }

        int findLink(int start, int end) {
            for (int link = 0; link < links; link++) {
                if (from[link] == start && to[link] == end) {
                    return link;
                }
            }
            return NONE;
        }

        void putLink(int start, int end, int packets) {
            if (links >= MAX_LINKS) {
                return;
            }
            from[links] = start;
            to[links] = end;
            capacity[links] = packets;
            carried[links] = 0;
            conflicts[links] = 0;
            links++;
            shortenDistances(start, end);
        }

        /** A shortest way takes a new link once at most, so one look at each pair of nodes does. */
        private void shortenDistances(int start, int end) {
            for (int node = 0; node < nodes; node++) {
                int toStart = distance[pair(node, start)];
                for (int goal = 0; goal < nodes; goal++) {
                    int over = toStart + 1 + distance[pair(end, goal)];
                    if (over < distance[pair(node, goal)]) {
                        distance[pair(node, goal)] = over;
                    }
                }
            }
        }

        boolean inConflict(int link, int other) {
            return ((conflicts[link] >> other) & 1) == 1;
        }

        void putConflict(int link, int other, boolean conflict) {
            if (conflict) {
                conflicts[link] |= 1 << other;
                conflicts[other] |= 1 << link;
            } else {
                conflicts[link] &= ~(1 << other);
                conflicts[other] &= ~(1 << link);
            }
        }

        void putFlow(int source, int destination, int rate, int budget) {
            if (flows >= MAX_FLOWS) {
                return;
            }
            int flow = flows;
            flows++;
            for (int what = 0; what < FLOW_NUMBERS; what++) {
                putNumber(flow, what, 0);
            }
            putNumber(flow, SOURCE, source);
            putNumber(flow, DESTINATION, destination);
            putNumber(flow, RATE, rate);
            putNumber(flow, BUDGET, budget);
        }

        int getNumber(int flow, int what) {
            return numbers[flow * FLOW_NUMBERS + what];
        }

        void putNumber(int flow, int what, int value) {
            numbers[flow * FLOW_NUMBERS + what] = value;
        }

        void addNumber(int flow, int what, int value) {
            numbers[flow * FLOW_NUMBERS + what] += value;
        }

        int sumNumber(int what) {
            int sum = 0;
            for (int flow = 0; flow < flows; flow++) {
                sum += getNumber(flow, what);
            }
            return sum;
        }

        boolean hasBudget() {
            for (int flow = 0; flow < flows; flow++) {
                if (getNumber(flow, BUDGET) > 0) {
                    return true;
                }
            }
            return false;
        }
    }

    /**
     * Packets in chains, one chain for each queue, and the shadows.
     * A packet is a number below MAX_PACKETS; those below used that are in no chain of a queue
     * are in the chain of free ones, so that a copy needs the rows up to used only.
     */
    private static final class Queues {
        final int[] first = new int[PAIRS];
        final int[] last = new int[PAIRS];
        final int[] length = new int[PAIRS];
        final int[] shadow = new int[PAIRS];
        final int[] next = new int[MAX_PACKETS];
        final int[] flow = new int[MAX_PACKETS];
        final int[] arrival = new int[MAX_PACKETS];
        final int[] carriers = new int[MAX_PACKETS];
        final int[] visited = new int[MAX_PACKETS];
        int used;
        int free = NONE;
        int packets;

        void clear() {
            Arrays.fill(length, 0);
            Arrays.fill(shadow, 0);
            used = 0;
            free = NONE;
            packets = 0;
        }

        void copyFrom(Queues other) {
            copyRow(other.first, first, PAIRS);
            copyRow(other.last, last, PAIRS);
            copyRow(other.length, length, PAIRS);
            copyRow(other.shadow, shadow, PAIRS);
            used = other.used;
            free = other.free;
            packets = other.packets;
            copyRow(other.next, next, used);
            copyRow(other.flow, flow, used);
            copyRow(other.arrival, arrival, used);
            copyRow(other.carriers, carriers, used);
            copyRow(other.visited, visited, used);
        }

        /** Returns whether there was room for the new packet. */
        boolean enter(int queue, int ofFlow, int slot, int node) {
            if (packets >= MAX_PACKETS || free == NONE && used >= MAX_PACKETS) {
                return false;
            }
            int packet = free;
            if (packet != NONE) {
                free = next[packet];
            } else {
                packet = used;
                used++;
            }
            flow[packet] = ofFlow;
            arrival[packet] = slot;
            carriers[packet] = 0;
            visited[packet] = 1 << node;
            packets++;
            putLast(queue, packet);
            return true;
        }

        void putLast(int queue, int packet) {
            next[packet] = NONE;
            if (length[queue] == 0) {
                first[queue] = packet;
            } else {
                next[last[queue]] = packet;
            }
            last[queue] = packet;
            length[queue]++;
        }

        /** Takes the packet behind the given one out of a queue, or the first one behind NONE. */
        int takeBehind(int queue, int before) {
            if (length[queue] == 0) {
                return NONE;
            }
            int packet = before == NONE ? first[queue] : next[before];
            if (packet == NONE) {
                return NONE;
            }
            if (before == NONE) {
                first[queue] = next[packet];
            } else {
                next[before] = next[packet];
            }
            if (next[packet] == NONE) {
                last[queue] = before;
            }
            length[queue]--;
            return packet;
        }

        void release(int packet) {
            next[packet] = free;
            free = packet;
            packets--;
        }

        int find(int queue, int index) {
            if (index < 0 || index >= length[queue]) {
                return NONE;
            }
            int packet = first[queue];
            for (int passed = 0; passed < index && packet != NONE; passed++) {
                packet = next[packet];
            }
            return packet;
        }
    }

    /** All that undo() and restore() bring back. */
    private static final class State {
        final Net net = new Net();
        final Queues queues = new Queues();
        int slot;
        int peak;

        void begin(Net other) {
            net.copyFrom(other);
            queues.clear();
            slot = 0;
            peak = 0;
        }

        void copyFrom(State other) {
            net.copyFrom(other.net);
            queues.copyFrom(other.queues);
            slot = other.slot;
            peak = other.peak;
        }

        /** Returns how many of the packets were not lost. */
        int arrive(int flow, int packets) {
            int source = net.getNumber(flow, SOURCE);
            int queue = pair(source, net.getNumber(flow, DESTINATION));
            int kept = 0;
            for (int packet = 0; packet < packets; packet++) {
                if (queues.enter(queue, flow, slot, source)) {
                    kept++;
                }
            }
            net.addNumber(flow, ARRIVED, packets);
            net.addNumber(flow, LOST, packets - kept);
            return kept;
        }

        int loseAll(int queue) {
            int lost = queues.length[queue];
            for (int i = 0; i < lost; i++) {
                int packet = queues.takeBehind(queue, NONE);
                if (packet != NONE) {
                    net.addNumber(queues.flow[packet], LOST, 1);
                    queues.release(packet);
                }
            }
            return lost;
        }

        /** The slot in which the packet will have used up its budget; NONE without a budget. */
        private int deadline(int packet) {
            int budget = net.getNumber(queues.flow[packet], BUDGET);
            return budget == 0 ? NONE : queues.arrival[packet] + budget;
        }

        int leastDeadline() {
            int least = NONE;
            for (int queue = 0; queue < PAIRS; queue++) {
                int length = queues.length[queue];
                int packet = queues.first[queue];
                for (int i = 0; i < length && packet != NONE; i++) {
                    int deadline = deadline(packet);
                    if (deadline != NONE && (least == NONE || deadline < least)) {
                        least = deadline;
                    }
                    packet = queues.next[packet];
                }
            }
            return least;
        }

        /** The slot is still the one that ends. */
        void expireAll() {
            if (queues.packets == 0 || !net.hasBudget()) {
                return;
            }
            for (int queue = 0; queue < PAIRS; queue++) {
                if (queues.length[queue] > 0) {
                    expireIn(queue);
                }
            }
        }

        private void expireIn(int queue) {
            int length = queues.length[queue];
            int before = NONE;
            int packet = queues.first[queue];
            for (int i = 0; i < length && packet != NONE; i++) {
                int following = queues.next[packet];
                int deadline = deadline(packet);
                if (deadline != NONE && slot + 1 >= deadline) {
                    queues.takeBehind(queue, before);
                    net.addNumber(queues.flow[packet], EXPIRED, 1);
                    queues.release(packet);
                } else {
                    before = packet;
                }
                packet = following;
            }
        }
    }

    /** The states before the latest changes, the oldest one first. */
    private static final class History {
        final State[] past = new State[MAX_UNDO];
        int changes;

        History() {
            for (int i = 0; i < MAX_UNDO; i++) {
                past[i] = new State();
            }
        }

        void remember(State state) {
            if (changes >= MAX_UNDO) {
                State oldest = past[0];
                for (int i = 1; i < MAX_UNDO; i++) {
                    past[i - 1] = past[i];
                }
                past[MAX_UNDO - 1] = oldest;
                changes = MAX_UNDO - 1;
            }
            past[changes].copyFrom(state);
            changes++;
        }

        void takeBack(State state) {
            if (changes > 0) {
                changes--;
                state.copyFrom(past[changes]);
            }
        }
    }

    /** The weights of the links of a state, and what the schedulers make of them. */
    private static final class Plan {
        final int[] commodity = new int[MAX_LINKS];
        final int[] weight = new int[MAX_LINKS];

        /** Weighs the links and returns the set of those that the scheduler chooses. */
        int choose(State state, int scheduler) {
            int candidates = 0;
            for (int link = 0; link < state.net.links; link++) {
                weigh(state, link);
                if (weight[link] > 0) {
                    candidates |= 1 << link;
                }
            }
            return scheduler == 0
                    ? greediest(candidates, state.net)
                    : heaviest(candidates, MAX_LINKS - 1, weight, state.net.conflicts);
        }

        private void weigh(State state, int link) {
            Net net = state.net;
            int[] level = net.settings[MODE] == 0 ? state.queues.length : state.queues.shadow;
            int bias = net.settings[BIAS];
            int best = NONE;
            int greatest = 0;
            for (int destination = 0; destination < net.nodes; destination++) {
                // The level of a node for itself is always 0, so a node is no destination for itself.
                int here = pair(net.from[link], destination);
                int there = pair(net.to[link], destination);
                if (level[here] > 0) {
                    int difference = level[here] + bias * net.distance[here]
                            - level[there] - bias * net.distance[there];
                    if (best == NONE || difference > greatest) {
                        best = destination;
                        greatest = difference;
                    }
                }
            }
            commodity[link] = best;
            weight[link] = Math.max(0, net.capacity[link] * greatest);
        }

        private int greediest(int candidates, Net net) {
            int chosen = 0;
            int left = candidates;
            for (int round = 0; round < MAX_LINKS && left != 0; round++) {
                int best = NONE;
                for (int link = 0; link < net.links; link++) {
                    if (((left >> link) & 1) == 1 && (best == NONE || weight[link] > weight[best])) {
                        best = link;
                    }
                }
                if (best != NONE) {
                    chosen |= 1 << best;
                    left &= ~(1 << best | net.conflicts[best]);
                }
            }
            return chosen;
        }

        /**
         * The heaviest set without conflicts among the candidates up to the link top.
         * Of several sets it is the lowest number, because the greatest link is left out if it
         * can be; without a conflict it cannot, because its weight is greater than 0.
         */
        private static int heaviest(int candidates, int top, int[] weight, int[] conflicts) {
            if (candidates == 0 || top < 0 || top >= MAX_LINKS) {
                return 0;
            }
            int rest = candidates & ~(1 << top);
            if (rest == candidates) {
                return heaviest(rest, top - 1, weight, conflicts);
            }
            int agreeing = rest & ~conflicts[top];
            int with = 1 << top | heaviest(agreeing, top - 1, weight, conflicts);
            if (agreeing == rest) {
                return with;
            }
            int without = heaviest(rest, top - 1, weight, conflicts);
            return sumOfWeights(with, weight) > sumOfWeights(without, weight) ? with : without;
        }

        static int sumOfWeights(int set, int[] weight) {
            int sum = 0;
            for (int link = 0; link < MAX_LINKS; link++) {
                if (((set >> link) & 1) == 1) {
                    sum += weight[link];
                }
            }
            return sum;
        }

        /** How many packets a link would carry, the chosen ones being served by number. */
        int countCarried(State state, int chosen, int link) {
            if (((chosen >> link) & 1) == 0) {
                return 0;
            }
            Net net = state.net;
            int left = state.queues.length[pair(net.from[link], commodity[link])];
            for (int lower = 0; lower < link; lower++) {
                if (((chosen >> lower) & 1) == 1 && net.from[lower] == net.from[link]
                        && commodity[lower] == commodity[link]) {
                    left = Math.max(0, left - net.capacity[lower]);
                }
            }
            return Math.min(left, net.capacity[link]);
        }
    }

    /** Lets slots pass in a state. */
    private static final class SlotRunner {
        final Plan plan = new Plan();
        private final int[] taken = new int[MAX_LINKS * MAX_CAPACITY];
        private final int[] takenPackets = new int[MAX_LINKS];
        private final int[] takenShadow = new int[MAX_LINKS];

        void passSlots(State state, int slots) {
            for (int passed = 0; passed < slots; passed++) {
                passSlot(state);
            }
        }

        void passSlot(State state) {
            for (int flow = 0; flow < state.net.flows; flow++) {
                letArrive(state, flow);
            }
            transmit(state, plan.choose(state, state.net.settings[SCHEDULER]));
            state.expireAll();
            state.slot++;
            state.peak = Math.max(state.peak, state.queues.packets);
        }

        private static void letArrive(State state, int flow) {
            Net net = state.net;
            int rate = net.getNumber(flow, RATE);
            state.arrive(flow, growth(state.slot, rate * 100));
            int queue = pair(net.getNumber(flow, SOURCE), net.getNumber(flow, DESTINATION));
            state.queues.shadow[queue] += growth(state.slot, rate * (100 + net.settings[EXCESS]));
        }

        /** What comes in a slot if share / 10000 come on average. */
        private static int growth(int slot, int share) {
            return (slot + 1) * share / 10000 - slot * share / 10000;
        }

        private void transmit(State state, int chosen) {
            for (int link = 0; link < state.net.links; link++) {
                if (((chosen >> link) & 1) == 1) {
                    takeFor(state, link);
                }
            }
            for (int link = 0; link < state.net.links; link++) {
                if (((chosen >> link) & 1) == 1) {
                    bringOver(state, link);
                }
            }
        }

        private void takeFor(State state, int link) {
            int capacity = state.net.capacity[link];
            int queue = pair(state.net.from[link], plan.commodity[link]);
            int packets = Math.min(capacity, state.queues.length[queue]);
            for (int i = 0; i < packets; i++) {
                taken[link * MAX_CAPACITY + i] = state.queues.takeBehind(queue, NONE);
            }
            takenPackets[link] = packets;
            state.net.carried[link] += packets;
            takenShadow[link] = Math.min(capacity, state.queues.shadow[queue]);
            state.queues.shadow[queue] -= takenShadow[link];
        }

        private void bringOver(State state, int link) {
            int node = state.net.to[link];
            boolean atGoal = node == plan.commodity[link];
            int queue = pair(node, plan.commodity[link]);
            for (int i = 0; i < takenPackets[link]; i++) {
                int packet = taken[link * MAX_CAPACITY + i];
                if (packet != NONE && atGoal) {
                    deliver(state, packet);
                } else if (packet != NONE) {
                    pass(state, packet, queue, node);
                }
            }
            if (!atGoal) {
                state.queues.shadow[queue] += takenShadow[link];
            }
        }

        private static void deliver(State state, int packet) {
            Net net = state.net;
            int flow = state.queues.flow[packet];
            int delay = state.slot + 1 - state.queues.arrival[packet];
            net.addNumber(flow, DELIVERED, 1);
            net.addNumber(flow, DELAYS, delay);
            net.putNumber(flow, LONGEST_DELAY, Math.max(delay, net.getNumber(flow, LONGEST_DELAY)));
            state.queues.release(packet);
        }

        private static void pass(State state, int packet, int queue, int node) {
            Queues queues = state.queues;
            queues.carriers[packet]++;
            if (((queues.visited[packet] >> node) & 1) == 1) {
                state.net.addNumber(queues.flow[packet], LOOPS, 1);
            }
            queues.visited[packet] |= 1 << node;
            queues.putLast(queue, packet);
        }
    }

    /** The greatest flow between two nodes, and the smallest set of nodes that bounds it. */
    private static final class Cut {
        private final int[] sent = new int[MAX_LINKS];
        private final int[] via = new int[MAX_NODES];
        int packets;
        int side;

        void find(Net net, int start, int end) {
            Arrays.fill(sent, 0);
            packets = 0;
            side = reach(net, start);
            for (int round = 0; round < MAX_LINKS * MAX_CAPACITY && ((side >> end) & 1) == 1; round++) {
                sendOne(net, start, end);
                packets++;
                side = reach(net, start);
            }
        }

        /** The nodes that one packet more can reach, the links keeping what they carry now. */
        private int reach(Net net, int start) {
            int reached = 1 << start;
            for (int round = 1; round < net.nodes; round++) {
                for (int link = 0; link < net.links; link++) {
                    reached |= reachOver(net, link, reached);
                }
            }
            return reached;
        }

        private int reachOver(Net net, int link, int reached) {
            int from = net.from[link];
            int to = net.to[link];
            boolean hasFrom = ((reached >> from) & 1) == 1;
            boolean hasTo = ((reached >> to) & 1) == 1;
            if (hasFrom && !hasTo && sent[link] < net.capacity[link]) {
                via[to] = link;
                return 1 << to;
            }
            if (hasTo && !hasFrom && sent[link] > 0) {
                via[from] = link;
                return 1 << from;
            }
            return 0;
        }

        private void sendOne(Net net, int start, int end) {
            int node = end;
            for (int step = 0; step < MAX_NODES && node != start; step++) {
                int link = via[node];
                if (net.to[link] == node) {
                    sent[link]++;
                    node = net.from[link];
                } else {
                    sent[link]--;
                    node = net.to[link];
                }
            }
        }
    }

    /** The input buffer, and its reading as a setup text. */
    private static final class SetupText {
        private static final int END = 0;
        private static final int WORD = 1;
        private static final int NUMBER = 2;
        private static final int SIGN = 3;
        private static final int MAX_DIGITS = 3;
        /** Stands for a number of too many digits, because no range reaches it. */
        private static final int TOO_GREAT = 1000;

        final int[] text = new int[MAX_TEXT];
        final Net net = new Net();
        int length;
        private int position;
        private int kind;
        private int start;
        private int value;
        private int conflictStatements;
        private int toldSettings;

        void putBytes(int word) {
            for (int shift = 24; shift >= 0; shift -= 8) {
                int one = (word >>> shift) & 255;
                if (one != 0 && length < MAX_TEXT) {
                    text[length] = one;
                    length++;
                }
            }
        }

        /** Builds the net of the text; returns the error position or NONE. */
        int read() {
            position = 0;
            conflictStatements = 0;
            toldSettings = 0;
            nextToken();
            if (!readNodes()) {
                return start;
            }
            for (int statement = 0; statement < MAX_TEXT && isSemicolon(); statement++) {
                nextToken();
                if (!readStatement()) {
                    return start;
                }
            }
            return kind == END ? NONE : start;
        }

        private void nextToken() {
            while (position < length && text[position] == ' ') {
                position++;
            }
            start = position;
            value = 0;
            kind = position < length ? kindOf(text[position]) : END;
            if (kind == SIGN) {
                value = text[position];
                position++;
                return;
            }
            while (position < length && kindOf(text[position]) == kind) {
                if (kind == NUMBER) {
                    boolean fits = position - start < MAX_DIGITS;
                    value = fits ? 10 * value + text[position] - '0' : TOO_GREAT;
                }
                position++;
            }
        }

        private static int kindOf(int one) {
            if (one >= 'a' && one <= 'z') {
                return WORD;
            }
            return one >= '0' && one <= '9' ? NUMBER : SIGN;
        }

        private boolean isSemicolon() {
            return kind == SIGN && value == ';';
        }

        private boolean isNumber(int low, int high) {
            return kind == NUMBER && value >= low && value <= high;
        }

        private boolean isWord(String word) {
            if (kind != WORD || position - start != word.length()) {
                return false;
            }
            for (int i = 0; i < word.length() && start + i < length; i++) {
                if (text[start + i] != word.charAt(i)) {
                    return false;
                }
            }
            return true;
        }

        // Each of the following reads a part of the text and goes to the token behind it; on an
        // error it stays at the token that cannot be accepted and returns false.

        private boolean readNodes() {
            if (!isWord("net")) {
                return false;
            }
            nextToken();
            if (!isNumber(MIN_NODES, MAX_NODES)) {
                return false;
            }
            net.clear(value);
            nextToken();
            return true;
        }

        private boolean readStatement() {
            if (isWord("link")) {
                return readLink();
            }
            if (isWord("conflict")) {
                return readConflict();
            }
            if (isWord("flow")) {
                return readFlow();
            }
            if (isWord("mode")) {
                return readChoice(MODE, "plain", "shadow");
            }
            if (isWord("excess")) {
                return readSetting(EXCESS);
            }
            if (isWord("bias")) {
                return readSetting(BIAS);
            }
            if (isWord("scheduler")) {
                return readChoice(SCHEDULER, "greedy", "exact");
            }
            return false;
        }

        private boolean readLink() {
            if (net.links >= MAX_LINKS) {
                return false;
            }
            nextToken();
            if (!isNumber(0, net.nodes - 1)) {
                return false;
            }
            int from = value;
            nextToken();
            if (!isNumber(0, net.nodes - 1) || value == from || net.findLink(from, value) != NONE) {
                return false;
            }
            int to = value;
            nextToken();
            if (!isNumber(1, MAX_CAPACITY)) {
                return false;
            }
            net.putLink(from, to, value);
            nextToken();
            return true;
        }

        private boolean readConflict() {
            if (conflictStatements >= MAX_CONFLICT_STATEMENTS || net.links < 2) {
                return false;
            }
            conflictStatements++;
            nextToken();
            if (!isNumber(0, net.links - 1)) {
                return false;
            }
            int link = value;
            nextToken();
            if (!isNumber(0, net.links - 1) || value == link || net.inConflict(link, value)) {
                return false;
            }
            net.putConflict(link, value, true);
            nextToken();
            return true;
        }

        private boolean readFlow() {
            if (net.flows >= MAX_FLOWS) {
                return false;
            }
            nextToken();
            if (!isNumber(0, net.nodes - 1)) {
                return false;
            }
            int source = value;
            nextToken();
            if (!isNumber(0, net.nodes - 1) || value == source) {
                return false;
            }
            int destination = value;
            nextToken();
            if (!isNumber(0, MAX_RATE)) {
                return false;
            }
            int flow = net.flows;
            net.putFlow(source, destination, value, 0);
            nextToken();
            return !isWord("budget") || readBudget(flow);
        }

        private boolean readBudget(int flow) {
            nextToken();
            if (!isNumber(0, MAX_BUDGET)) {
                return false;
            }
            net.putNumber(flow, BUDGET, value);
            nextToken();
            return true;
        }

        private boolean beginSetting(int setting) {
            if (((toldSettings >> setting) & 1) == 1) {
                return false;
            }
            toldSettings |= 1 << setting;
            nextToken();
            return true;
        }

        private boolean readChoice(int setting, String zero, String one) {
            if (!beginSetting(setting) || !isWord(zero) && !isWord(one)) {
                return false;
            }
            net.settings[setting] = isWord(one) ? 1 : 0;
            nextToken();
            return true;
        }

        private boolean readSetting(int setting) {
            if (!beginSetting(setting) || !isNumber(0, GREATEST_SETTING[setting])) {
                return false;
            }
            net.settings[setting] = value;
            nextToken();
            return true;
        }
    }
}
