import java.util.ArrayDeque;
import java.util.ArrayList;
import java.util.Arrays;
import java.util.Deque;
import java.util.HashSet;
import java.util.List;
import java.util.NoSuchElementException;
import java.util.Set;
import java.util.TreeMap;
import java.util.TreeSet;
import java.util.function.Consumer;
import java.util.regex.Matcher;
import java.util.regex.Pattern;

/**
 * The document once more, written for plainness only and with other means than PressureNet:
 * objects for packets and links, whole copies for every change, all sets of links tried.
 * ModelTest compares the two.
 */
final class ReferenceNet {
    static final class Packet {
        int flow;
        int slot;
        int carriers;
        Set<Integer> nodes = new TreeSet<>();

        Packet copy() {
            Packet p = new Packet();
            p.flow = flow;
            p.slot = slot;
            p.carriers = carriers;
            p.nodes.addAll(nodes);
            return p;
        }
    }

    static final class Link {
        int from;
        int to;
        int capacity;
        int carried;

        Link copy() {
            Link l = new Link();
            l.from = from;
            l.to = to;
            l.capacity = capacity;
            l.carried = carried;
            return l;
        }
    }

    static final class Choice {
        int commodity = -1;
        long weight;
    }

    static final class World {
        int nodes;
        int slot;
        int peak;
        int[] settings = {0, 10, 0, 0};
        List<Link> links = new ArrayList<>();
        Set<List<Integer>> conflicts = new HashSet<>();
        List<int[]> flows = new ArrayList<>();
        TreeMap<Integer, Deque<Packet>> queues = new TreeMap<>();
        TreeMap<Integer, Integer> shadows = new TreeMap<>();

        World(int nodes) {
            this.nodes = nodes;
            for (int n = 0; n < nodes; n++) {
                for (int d = 0; d < nodes; d++) {
                    if (n != d) {
                        queues.put(100 * n + d, new ArrayDeque<>());
                        shadows.put(100 * n + d, 0);
                    }
                }
            }
        }

        World copy() {
            World w = new World(nodes);
            w.slot = slot;
            w.peak = peak;
            w.settings = settings.clone();
            for (Link l : links) {
                w.links.add(l.copy());
            }
            w.conflicts.addAll(conflicts);
            for (int[] f : flows) {
                w.flows.add(f.clone());
            }
            queues.forEach((key, queue) -> queue.forEach(p -> w.queues.get(key).add(p.copy())));
            w.shadows.putAll(shadows);
            return w;
        }

        int packets() {
            return queues.values().stream().mapToInt(Deque::size).sum();
        }

        boolean conflict(int a, int b) {
            return conflicts.contains(List.of(Math.min(a, b), Math.max(a, b)));
        }

        int distance(int from, int to) {
            Set<Integer> seen = new HashSet<>(Set.of(from));
            for (int steps = 0; steps < nodes; steps++) {
                if (seen.contains(to)) {
                    return steps;
                }
                Set<Integer> more = new HashSet<>(seen);
                for (Link l : links) {
                    if (seen.contains(l.from)) {
                        more.add(l.to);
                    }
                }
                seen = more;
            }
            return nodes;
        }

        /** The least cut by trying all sets of nodes: {value, smallest set}. */
        int[] cut(int from, int to) {
            int[] best = null;
            for (int set = 0; set < 1 << nodes; set++) {
                if ((set >> from & 1) == 0 || (set >> to & 1) == 1) {
                    continue;
                }
                int value = 0;
                for (Link l : links) {
                    if ((set >> l.from & 1) == 1 && (set >> l.to & 1) == 0) {
                        value += l.capacity;
                    }
                }
                if (best == null || value < best[0]
                        || value == best[0] && Integer.bitCount(set) < Integer.bitCount(best[1])) {
                    best = new int[] {value, set};
                }
            }
            return best;
        }

        int arrive(int flow, int packets) {
            int[] f = flows.get(flow);
            int kept = 0;
            for (int i = 0; i < packets; i++) {
                f[4]++;
                if (packets() == 500) {
                    f[5]++;
                } else {
                    Packet p = new Packet();
                    p.flow = flow;
                    p.slot = slot;
                    p.nodes.add(f[0]);
                    queues.get(100 * f[0] + f[1]).addLast(p);
                    kept++;
                }
            }
            return kept;
        }

        boolean possible(int n, int d) {
            return settings[0] == 0 ? !queues.get(100 * n + d).isEmpty() : shadows.get(100 * n + d) > 0;
        }

        long pressure(int n, int d) {
            if (n == d) {
                return 0;
            }
            long level = settings[0] == 0 ? queues.get(100 * n + d).size() : shadows.get(100 * n + d);
            return level + (long) settings[2] * distance(n, d);
        }

        List<Choice> weigh() {
            List<Choice> all = new ArrayList<>();
            for (Link l : links) {
                Choice c = new Choice();
                long greatest = Long.MIN_VALUE;
                for (int d = 0; d < nodes; d++) {
                    if (d == l.from || !possible(l.from, d)) {
                        continue;
                    }
                    long difference = pressure(l.from, d) - pressure(l.to, d);
                    if (difference > greatest) {
                        greatest = difference;
                        c.commodity = d;
                    }
                }
                if (c.commodity >= 0 && greatest > 0) {
                    c.weight = l.capacity * greatest;
                }
                all.add(c);
            }
            return all;
        }

        int schedule(int scheduler) {
            List<Choice> all = weigh();
            return scheduler == 0 ? greedy(all) : exact(all);
        }

        int greedy(List<Choice> all) {
            List<Integer> order = new ArrayList<>();
            for (int k = 0; k < all.size(); k++) {
                if (all.get(k).weight > 0) {
                    order.add(k);
                }
            }
            order.sort((a, b) -> Long.compare(all.get(b).weight, all.get(a).weight));
            int set = 0;
            for (int k : order) {
                if (independent(set | 1 << k)) {
                    set |= 1 << k;
                }
            }
            return set;
        }

        boolean independent(int set) {
            for (List<Integer> pair : conflicts) {
                if ((set >> pair.get(0) & 1) == 1 && (set >> pair.get(1) & 1) == 1) {
                    return false;
                }
            }
            return true;
        }

        int exact(List<Choice> all) {
            int best = 0;
            int usable = 0;
            for (int k = 0; k < all.size(); k++) {
                usable |= all.get(k).weight > 0 ? 1 << k : 0;
            }
            int[] pairs = new int[conflicts.size()];
            int at = 0;
            for (List<Integer> pair : conflicts) {
                pairs[at++] = 1 << pair.get(0) | 1 << pair.get(1);
            }
            for (int set = 1; set < 1 << all.size(); set++) {
                boolean fits = (set & ~usable) == 0;
                for (int i = 0; fits && i < pairs.length; i++) {
                    fits = (set & pairs[i]) != pairs[i];
                }
                if (fits && weight(set, all) > weight(best, all)) {
                    best = set;
                }
            }
            return best;
        }

        static long weight(int set, List<Choice> all) {
            long sum = 0;
            for (int k = 0; k < all.size(); k++) {
                sum += (set >> k & 1) * all.get(k).weight;
            }
            return sum;
        }

        int wouldCarry(int link) {
            int set = schedule(settings[3]);
            List<Choice> all = weigh();
            TreeMap<Integer, Integer> left = new TreeMap<>();
            queues.forEach((key, queue) -> left.put(key, queue.size()));
            for (int k = 0; k < links.size(); k++) {
                if ((set >> k & 1) == 1) {
                    int key = 100 * links.get(k).from + all.get(k).commodity;
                    int amount = Math.min(left.get(key), links.get(k).capacity);
                    left.put(key, left.get(key) - amount);
                    if (k == link) {
                        return amount;
                    }
                }
            }
            return 0;
        }

        static long whole(long slot, long a, long b) {
            return Math.floorDiv(slot * a, b);
        }

        void pass() {
            long t = slot;
            for (int k = 0; k < flows.size(); k++) {
                int[] f = flows.get(k);
                arrive(k, (int) (whole(t + 1, f[2], 100) - whole(t, f[2], 100)));
                long a = (long) f[2] * (100 + settings[1]);
                shadows.merge(100 * f[0] + f[1], (int) (whole(t + 1, a, 10000) - whole(t, a, 10000)), Integer::sum);
            }
            List<Choice> all = weigh();
            int set = schedule(settings[3]);
            transmit(all, set);
            for (Deque<Packet> queue : queues.values()) {
                queue.removeIf(p -> {
                    int[] f = flows.get(p.flow);
                    boolean over = f[3] != 0 && slot + 1 - p.slot >= f[3];
                    f[7] += over ? 1 : 0;
                    return over;
                });
            }
            slot++;
            peak = Math.max(peak, packets());
        }

        void transmit(List<Choice> all, int set) {
            TreeMap<Integer, List<Packet>> moving = new TreeMap<>();
            TreeMap<Integer, Integer> movingShadow = new TreeMap<>();
            for (int k = 0; k < links.size(); k++) {
                if ((set >> k & 1) == 0) {
                    continue;
                }
                int key = 100 * links.get(k).from + all.get(k).commodity;
                List<Packet> taken = new ArrayList<>();
                while (taken.size() < links.get(k).capacity && !queues.get(key).isEmpty()) {
                    taken.add(queues.get(key).removeFirst());
                }
                int amount = Math.min(links.get(k).capacity, shadows.get(key));
                shadows.merge(key, -amount, Integer::sum);
                moving.put(k, taken);
                movingShadow.put(k, amount);
            }
            for (int k : moving.keySet()) {
                int m = links.get(k).to;
                int d = all.get(k).commodity;
                links.get(k).carried += moving.get(k).size();
                for (Packet p : moving.get(k)) {
                    p.carriers++;
                    int[] f = flows.get(p.flow);
                    if (f[1] == m) {
                        int delay = slot + 1 - p.slot;
                        f[6]++;
                        f[9] += delay;
                        f[10] = Math.max(f[10], delay);
                    } else {
                        queues.get(100 * m + d).addLast(p);
                        f[8] += p.nodes.add(m) ? 0 : 1;
                    }
                }
                if (m != d) {
                    shadows.merge(100 * m + d, movingShadow.get(k), Integer::sum);
                }
            }
        }

        long total(int what) {
            switch (what) {
                case 0: return slot;
                case 1: return packets();
                case 2: return peak;
                case 3: return shadows.values().stream().mapToLong(v -> v).sum();
                case 4: return queues.values().stream().mapToLong(q -> (long) q.size() * q.size()).sum();
                default: return shadows.values().stream().mapToLong(v -> (long) v * v).sum();
            }
        }

        int sum(int what) {
            return flows.stream().mapToInt(f -> f[what]).sum();
        }
    }

    private String text = "";
    private World world;
    private World saved;
    private final List<World> past = new ArrayList<>();

    ReferenceNet() {
        text = "net 3;link 0 1 1;link 1 2 1;flow 0 2 50";
        load();
    }

    // ---- Input

    int append(int a, int b, int c, int d, int e) {
        StringBuilder more = new StringBuilder(text);
        for (int word : new int[] {a, b, c, d, e}) {
            for (byte one : java.nio.ByteBuffer.allocate(4).putInt(word).array()) {
                if (one != 0) {
                    more.append((char) (one & 255));
                }
            }
        }
        if (more.length() > 700) {
            throw new IllegalStateException();
        }
        text = more.toString();
        return text.length();
    }

    int truncate(int length) {
        require(length >= 0 && length <= text.length());
        text = text.substring(0, length);
        return length;
    }

    /** Goes along the text with a list of what may come next at each token. */
    private static final class Reader {
        static final Pattern TOKEN = Pattern.compile("[a-z]+|[0-9]+|[^ ]", Pattern.DOTALL);
        final List<String> tokens = new ArrayList<>();
        final List<Integer> offsets = new ArrayList<>();
        int at;
        World world;
        int conflicts;
        final Set<String> told = new HashSet<>();

        static final class Bad extends RuntimeException {
            private static final long serialVersionUID = 1L;
        }

        Reader(String text) {
            Matcher m = TOKEN.matcher(text);
            while (m.find()) {
                tokens.add(m.group());
                offsets.add(m.start());
            }
            tokens.add("");
            offsets.add(text.length());
        }

        void accept(boolean fine) {
            if (!fine) {
                throw new Bad();
            }
            at++;
        }

        int number(int low, int high) {
            String token = tokens.get(at);
            accept(token.matches("[0-9]{1,3}") && Integer.parseInt(token) >= low && Integer.parseInt(token) <= high);
            return Integer.parseInt(token);
        }

        int otherNumber(int low, int high, Set<Integer> not) {
            String token = tokens.get(at);
            accept(!token.matches("[0-9]{1,3}") || !not.contains(Integer.parseInt(token)));
            at--;
            return number(low, high);
        }

        int error() {
            try {
                accept(tokens.get(at).equals("net"));
                world = new World(number(2, 10));
                while (at < tokens.size() - 1) {
                    accept(tokens.get(at).equals(";"));
                    statement();
                }
                return -1;
            } catch (Bad e) {
                return offsets.get(at);
            }
        }

        void statement() {
            String word = tokens.get(at);
            switch (word) {
                case "link": link(); break;
                case "conflict": conflict(); break;
                case "flow": flow(); break;
                case "mode": setting(word, 0, List.of("plain", "shadow")); break;
                case "scheduler": setting(word, 3, List.of("greedy", "exact")); break;
                case "excess": accept(told.add(word)); world.settings[1] = number(0, 50); break;
                case "bias": accept(told.add(word)); world.settings[2] = number(0, 20); break;
                default: throw new Bad();
            }
        }

        void setting(String word, int what, List<String> values) {
            accept(told.add(word));
            int value = values.indexOf(tokens.get(at));
            accept(value >= 0);
            world.settings[what] = value;
        }

        void link() {
            accept(world.links.size() < 14);
            Link l = new Link();
            l.from = number(0, world.nodes - 1);
            Set<Integer> not = new HashSet<>(Set.of(l.from));
            for (Link other : world.links) {
                if (other.from == l.from) {
                    not.add(other.to);
                }
            }
            l.to = otherNumber(0, world.nodes - 1, not);
            l.capacity = number(1, 5);
            world.links.add(l);
        }

        void conflict() {
            accept(conflicts++ < 40 && world.links.size() >= 2);
            int a = number(0, world.links.size() - 1);
            Set<Integer> not = new HashSet<>(Set.of(a));
            for (int b = 0; b < world.links.size(); b++) {
                if (world.conflict(a, b)) {
                    not.add(b);
                }
            }
            int b = otherNumber(0, world.links.size() - 1, not);
            world.conflicts.add(List.of(Math.min(a, b), Math.max(a, b)));
        }

        void flow() {
            accept(world.flows.size() < 6);
            int[] f = new int[11];
            f[0] = number(0, world.nodes - 1);
            f[1] = otherNumber(0, world.nodes - 1, Set.of(f[0]));
            f[2] = number(0, 300);
            if (tokens.get(at).equals("budget")) {
                at++;
                f[3] = number(0, 200);
            }
            world.flows.add(f);
        }
    }

    int errorPosition() {
        return new Reader(text).error();
    }

    int load() {
        Reader reader = new Reader(text);
        require(reader.error() == -1);
        world = reader.world;
        saved = null;
        past.clear();
        text = "";
        return world.links.size();
    }

    // ---- Changes

    private static void require(boolean fine) {
        if (!fine) {
            throw new IllegalArgumentException();
        }
    }

    private static void exists(int number, int count) {
        if (number < 0 || number >= count) {
            throw new IndexOutOfBoundsException();
        }
    }

    private void nodes(int a, int b) {
        exists(a, world.nodes);
        exists(b, world.nodes);
    }

    private void different(int a, int b) {
        nodes(a, b);
        require(a != b);
    }

    private void between(int value, int low, int high) {
        require(value >= low && value <= high);
    }

    private void change() {
        past.add(world.copy());
        if (past.size() > 6) {
            past.remove(0);
        }
    }

    int addLink(int from, int to, int capacity) {
        different(from, to);
        between(capacity, 1, 5);
        boolean there = world.links.stream().anyMatch(l -> l.from == from && l.to == to);
        if (there || world.links.size() == 14) {
            throw new IllegalStateException();
        }
        change();
        Link l = new Link();
        l.from = from;
        l.to = to;
        l.capacity = capacity;
        world.links.add(l);
        return world.links.size() - 1;
    }

    int setCapacity(int link, int capacity) {
        exists(link, world.links.size());
        between(capacity, 1, 5);
        change();
        int before = world.links.get(link).capacity;
        world.links.get(link).capacity = capacity;
        return before;
    }

    boolean setConflict(int link, int other, boolean conflict) {
        exists(link, world.links.size());
        exists(other, world.links.size());
        require(link != other);
        change();
        List<Integer> pair = List.of(Math.min(link, other), Math.max(link, other));
        boolean before = world.conflicts.remove(pair);
        if (conflict) {
            world.conflicts.add(pair);
        }
        return before;
    }

    int addFlow(int source, int destination, int rate, int budget) {
        different(source, destination);
        between(rate, 0, 300);
        between(budget, 0, 200);
        if (world.flows.size() == 6) {
            throw new IllegalStateException();
        }
        change();
        int[] f = Arrays.copyOf(new int[] {source, destination, rate, budget}, 11);
        world.flows.add(f);
        return world.flows.size() - 1;
    }

    int setRate(int flow, int rate) {
        return replace(flow, 2, rate, 300);
    }

    int setBudget(int flow, int budget) {
        return replace(flow, 3, budget, 200);
    }

    private int replace(int flow, int what, int value, int greatest) {
        exists(flow, world.flows.size());
        between(value, 0, greatest);
        change();
        int before = world.flows.get(flow)[what];
        world.flows.get(flow)[what] = value;
        return before;
    }

    int set(int what, int value) {
        between(what, 0, 3);
        between(value, 0, new int[] {1, 50, 20, 1}[what]);
        change();
        int before = world.settings[what];
        world.settings[what] = value;
        return before;
    }

    int inject(int flow, int packets) {
        exists(flow, world.flows.size());
        between(packets, 1, 100);
        change();
        return world.arrive(flow, packets);
    }

    int flush(int node, int destination) {
        different(node, destination);
        change();
        Deque<Packet> queue = world.queues.get(100 * node + destination);
        int before = queue.size();
        queue.forEach(p -> world.flows.get(p.flow)[5]++);
        queue.clear();
        return before;
    }

    int resetShadows() {
        change();
        int before = (int) world.total(3);
        world.shadows.replaceAll((key, value) -> 0);
        return before;
    }

    int run(int slots) {
        between(slots, 1, 50);
        require(world.slot + slots <= 9999);
        change();
        for (int i = 0; i < slots; i++) {
            world.pass();
        }
        return world.packets();
    }

    // ---- History

    int undo() {
        if (past.isEmpty()) {
            throw new IllegalStateException();
        }
        world = past.remove(past.size() - 1);
        return past.size();
    }

    int undoCount() {
        return past.size();
    }

    int save() {
        saved = world.copy();
        return world.slot;
    }

    int restore() {
        if (saved == null) {
            throw new IllegalStateException();
        }
        world = saved.copy();
        past.clear();
        return world.slot;
    }

    // ---- Net

    int count(int what) {
        between(what, 0, 6);
        return new int[] {world.nodes, world.links.size(), world.flows.size(), world.settings[0],
            world.settings[1], world.settings[2], world.settings[3]}[what];
    }

    int link(int link, int what) {
        exists(link, world.links.size());
        between(what, 0, 7);
        Link l = world.links.get(link);
        switch (what) {
            case 0: return l.from;
            case 1: return l.to;
            case 2: return l.capacity;
            case 3: return l.carried;
            case 4: return world.weigh().get(link).commodity;
            case 5: return (int) world.weigh().get(link).weight;
            case 6: return world.schedule(world.settings[3]) >> link & 1;
            default: return world.wouldCarry(link);
        }
    }

    int conflicts(int link) {
        exists(link, world.links.size());
        int set = 0;
        for (int other = 0; other < world.links.size(); other++) {
            set |= world.conflict(link, other) ? 1 << other : 0;
        }
        return set;
    }

    int flow(int flow, int what) {
        exists(flow, world.flows.size());
        between(what, 0, 10);
        return world.flows.get(flow)[what];
    }

    int hops(int node, int destination) {
        nodes(node, destination);
        return world.distance(node, destination);
    }

    int maxFlow(int from, int to) {
        different(from, to);
        return world.cut(from, to)[0];
    }

    int cutSide(int from, int to) {
        different(from, to);
        return world.cut(from, to)[1];
    }

    int overloaded() {
        int set = 0;
        for (int k = 0; k < world.flows.size(); k++) {
            int[] f = world.flows.get(k);
            set |= f[2] > 100 * world.cut(f[0], f[1])[0] ? 1 << k : 0;
        }
        return set;
    }

    // ---- Queues

    int queue(int node, int destination) {
        different(node, destination);
        return world.queues.get(100 * node + destination).size();
    }

    int shadow(int node, int destination) {
        different(node, destination);
        return world.shadows.get(100 * node + destination);
    }

    int packet(int node, int destination, int index, int what) {
        different(node, destination);
        between(what, 0, 3);
        List<Packet> queue = new ArrayList<>(world.queues.get(100 * node + destination));
        if (index < 0 || index >= queue.size()) {
            throw new NoSuchElementException();
        }
        Packet p = queue.get(index);
        int nodes = p.nodes.stream().mapToInt(n -> 1 << n).sum();
        return new int[] {p.flow, p.slot, p.carriers, nodes}[what];
    }

    long total(int what) {
        between(what, 0, 5);
        return world.total(what);
    }

    int fullest() {
        int best = -1;
        int most = 0;
        for (int key : world.queues.keySet()) {
            if (world.queues.get(key).size() > most) {
                most = world.queues.get(key).size();
                best = key;
            }
        }
        if (best < 0) {
            throw new NoSuchElementException();
        }
        return best;
    }

    int urgent() {
        return world.queues.values().stream().flatMap(Deque::stream)
            .filter(p -> world.flows.get(p.flow)[3] != 0)
            .mapToInt(p -> Math.max(0, p.slot + world.flows.get(p.flow)[3] - world.slot))
            .min().orElseThrow(NoSuchElementException::new);
    }

    int meanDelay(int flow, boolean denominator) {
        exists(flow, world.flows.size());
        int[] f = world.flows.get(flow);
        if (f[6] == 0) {
            throw new NoSuchElementException();
        }
        int divisor = java.math.BigInteger.valueOf(f[6]).gcd(java.math.BigInteger.valueOf(f[9])).intValue();
        return (denominator ? f[6] : f[9]) / divisor;
    }

    // ---- Schedules

    int schedule(int scheduler) {
        between(scheduler, 0, 1);
        return world.schedule(scheduler);
    }

    int scheduleWeight(int scheduler) {
        between(scheduler, 0, 1);
        return (int) World.weight(world.schedule(scheduler), world.weigh());
    }

    // ---- Looking ahead

    private World ahead(int slots, Consumer<World> before) {
        World copy = world.copy();
        before.accept(copy);
        for (int i = 0; i < slots; i++) {
            copy.pass();
        }
        return copy;
    }

    long forecast(int slots, int what) {
        between(slots, 1, 50);
        between(what, 0, 5);
        return ahead(slots, w -> { }).total(what);
    }

    int forecastFlow(int flow, int slots, int what) {
        exists(flow, world.flows.size());
        between(slots, 1, 50);
        between(what, 0, 10);
        return ahead(slots, w -> { }).flows.get(flow)[what];
    }

    int slotsToFull(int slots, int packets) {
        between(slots, 1, 50);
        between(packets, 1, 500);
        World copy = world.copy();
        for (int i = 0; i <= slots; i++) {
            if (copy.packets() >= packets) {
                return i;
            }
            copy.pass();
        }
        throw new NoSuchElementException();
    }

    int bestBias(int slots) {
        between(slots, 1, 50);
        int best = -1;
        long least = 0;
        for (int bias = 0; bias <= 20; bias++) {
            int value = bias;
            World w = ahead(slots, copy -> copy.settings[2] = value);
            long badness = 1_000_000_000L * w.packets() + w.sum(8);
            if (best < 0 || badness < least) {
                best = bias;
                least = badness;
            }
        }
        return best;
    }

    int bestExcess(int slots) {
        between(slots, 1, 50);
        int best = -1;
        int most = 0;
        for (int excess : new int[] {0, 10, 20, 30, 40, 50}) {
            World w = ahead(slots, copy -> {
                copy.settings[0] = 1;
                copy.settings[1] = excess;
            });
            if (best < 0 || w.sum(6) > most) {
                best = excess;
                most = w.sum(6);
            }
        }
        return best;
    }

    int bestSettings(int slots) {
        between(slots, 1, 50);
        int best = -1;
        long least = 0;
        for (int pair : new int[] {0, 1, 10, 11}) {
            World w = ahead(slots, copy -> {
                copy.settings[0] = pair / 10;
                copy.settings[3] = pair % 10;
            });
            if (best < 0 || w.total(4) < least) {
                best = pair;
                least = w.total(4);
            }
        }
        return best;
    }

    int sustainable(int flow, int slots) {
        exists(flow, world.flows.size());
        between(slots, 1, 20);
        for (int rate = 0; rate <= 300; rate++) {
            World copy = world.copy();
            copy.flows.get(flow)[2] = rate;
            for (int i = 0; i < slots; i++) {
                copy.pass();
                if (copy.packets() > 100) {
                    return rate - 1;
                }
            }
        }
        return 300;
    }
}
