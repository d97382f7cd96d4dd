import java.util.ArrayList;
import java.util.List;
import java.util.Random;

/** Long runs of calls on PressureNet and on ReferenceNet; every answer must be the same. */
public final class ModelTest {
    private interface Answer {
        long get();
    }

    /** An object is used for so many calls at most; what later calls answer is free. */
    private static final int MAX_CALLS = 512;
    /** What askAll() takes at most. */
    private static final int ALL = 200;
    private final Random random;
    private final PressureNet net = new PressureNet();
    private final ReferenceNet due = new ReferenceNet();
    private final List<String> calls = new ArrayList<>();
    /** Dear calls are rarer, because the model is slow. */
    private int dearCalls = 12;
    private int made;
    private int calm;

    private ModelTest(long seed) {
        random = new Random(seed);
    }

    public static void main(String[] args) {
        int runs = args.length > 0 ? Integer.parseInt(args[0]) : 160;
        long first = args.length > 1 ? Long.parseLong(args[1]) : 1;
        for (long seed = first; seed < first + runs; seed++) {
            ModelTest test = new ModelTest(seed);
            try {
                test.compare();
            } catch (IllegalStateException e) {
                System.out.println("seed " + seed + ": " + e.getMessage());
                System.exit(1);
            }
        }
        System.out.println("ModelTest: " + runs + " runs of " + MAX_CALLS + " calls are as the model's");
    }

    private void compare() {
        // Some runs never empty the net, so that it becomes full and late.
        calm = random.nextInt(4);
        same("setup", () -> setUp(net), () -> setUp(due));
        made += words(setupText).size() + 1;
        boolean asksAll = random.nextBoolean();
        while (made < (asksAll ? MAX_CALLS - ALL : MAX_CALLS)) {
            step();
        }
        if (asksAll) {
            askAll();
        }
    }

    private String setupText;

    private long setUp(PressureNet x) {
        setupText = setupText == null ? text(random.nextInt(5) > 0) : setupText;
        for (int[] w : words(setupText)) {
            x.append(w[0], w[1], w[2], w[3], w[4]);
        }
        int error = x.errorPosition();
        if (error == -1) {
            x.load();
        } else {
            x.truncate(0);
        }
        return error;
    }

    private long setUp(ReferenceNet x) {
        for (int[] w : words(setupText)) {
            x.append(w[0], w[1], w[2], w[3], w[4]);
        }
        int error = x.errorPosition();
        if (error == -1) {
            x.load();
        } else {
            x.truncate(0);
        }
        return error;
    }

    static List<int[]> words(String text) {
        List<int[]> all = new ArrayList<>();
        for (int at = 0; at < text.length(); at += 20) {
            int[] five = new int[5];
            for (int i = 0; i < 20; i++) {
                int one = at + i < text.length() ? text.charAt(at + i) : 0;
                five[i / 4] |= one << 24 - 8 * (i % 4);
            }
            all.add(five);
        }
        return all;
    }

    private String space() {
        return random.nextInt(6) == 0 ? "  " : " ";
    }

    private int pick(int low, int high) {
        return low + random.nextInt(high - low + 1);
    }

    private String text(boolean clean) {
        int nodes = pick(2, 10);
        StringBuilder out = new StringBuilder("net" + space() + nodes);
        int statements = pick(2, 30);
        int links = 0;
        int flows = 0;
        List<String> told = new ArrayList<>();
        for (int i = 0; i < statements && out.length() < 600; i++) {
            String next = statement(nodes, links, flows);
            String head = next.substring(0, Math.min(6, next.length()));
            String key = next.startsWith("link") || next.startsWith("conf") ? next.replaceAll("\\s+", " ") : head;
            if (next.startsWith("link")) {
                String[] p = next.trim().split("\\s+");
                key = "link " + p[1] + " " + p[2];
            }
            if (next.startsWith("conf")) {
                String[] p = next.trim().split("\\s+");
                int a = Integer.parseInt(p[1]);
                int b = Integer.parseInt(p[2]);
                key = "conf " + Math.min(a, b) + " " + Math.max(a, b);
            }
            if (clean && (told.contains(key) && !next.startsWith("flow")
                    || next.startsWith("link") && links == 14 || next.startsWith("flow") && flows == 6)) {
                continue;
            }
            told.add(key);
            links += next.startsWith("link") ? 1 : 0;
            flows += next.startsWith("flow") ? 1 : 0;
            out.append(random.nextInt(5) == 0 ? " ; " : ";").append(next);
        }
        return clean ? out.toString() : spoil(out.toString());
    }

    private String spoil(String text) {
        StringBuilder out = new StringBuilder(text);
        for (int i = pick(1, 3); i > 0; i--) {
            int at = random.nextInt(out.length());
            String bad = "0123456789 ;abdeglnkt\u00e9\tA";
            char one = bad.charAt(random.nextInt(bad.length()));
            switch (random.nextInt(4)) {
                case 0: out.setCharAt(at, one); break;
                case 1: out.insert(at, one); break;
                case 2: out.deleteCharAt(at).append(' '); break;
                default: out.setLength(Math.max(1, at)); break;
            }
        }
        return out.toString();
    }

    private String statement(int nodes, int links, int flows) {
        int kind = random.nextInt(12);
        if (kind < 5 || links < 2) {
            int from = random.nextInt(nodes);
            int to = (from + pick(1, nodes - 1)) % nodes;
            return "link" + space() + from + space() + to + space() + pick(1, 5);
        }
        if (kind < 8) {
            int a = random.nextInt(links);
            int b = (a + pick(1, links - 1)) % links;
            return "conflict" + space() + a + space() + b;
        }
        if (kind < 10 || flows == 0) {
            int from = random.nextInt(nodes);
            int to = (from + pick(1, nodes - 1)) % nodes;
            String budget = random.nextInt(3) == 0 ? space() + "budget" + space() + random.nextInt(60) : "";
            return "flow" + space() + from + space() + to + space() + random.nextInt(301) + budget;
        }
        switch (random.nextInt(4)) {
            case 0: return "mode " + (random.nextBoolean() ? "plain" : "shadow");
            case 1: return "excess " + random.nextInt(51);
            case 2: return "bias " + random.nextInt(21);
            default: return "scheduler " + (random.nextBoolean() ? "greedy" : "exact");
        }
    }

    private int node() {
        return random.nextInt(25) == 0 ? pick(-1, 11) : random.nextInt(Math.max(1, due.count(0)));
    }

    private int link() {
        return random.nextInt(25) == 0 ? pick(-1, 15) : random.nextInt(Math.max(1, due.count(1)));
    }

    private int flow() {
        return random.nextInt(25) == 0 ? pick(-1, 7) : random.nextInt(Math.max(1, due.count(2)));
    }

    private int number(int low, int high) {
        return random.nextInt(20) == 0 ? (random.nextBoolean() ? low - 1 : high + 1) : pick(low, high);
    }

    /** Asks what tells the whole state, so that a fault shows soon after its cause. */
    private void askAll() {
        for (int what = 0; what < 6; what++) {
            int w = what;
            same("total " + w, () -> net.total(w), () -> due.total(w));
        }
        for (int k = 0; k < due.count(2); k++) {
            for (int what = 0; what < 11; what++) {
                int f = k;
                int w = what;
                same("flow " + f + " " + w, () -> net.flow(f, w), () -> due.flow(f, w));
            }
        }
        for (int k = 0; k < due.count(1); k++) {
            for (int what = 0; what < 8; what++) {
                int l = k;
                int w = what;
                same("link " + l + " " + w, () -> net.link(l, w), () -> due.link(l, w));
            }
        }
    }

    private void step() {
        int kind = random.nextInt(100);
        if (kind < 30) {
            change(random.nextInt(calm == 0 ? 7 : 14));
        } else if (kind < 36) {
            history(random.nextInt(9));
        } else if (kind < 40) {
            input();
        } else if (kind < 60) {
            askNet(random.nextInt(8));
        } else if (kind < 85) {
            askQueues(random.nextInt(7));
        } else if (kind < 92) {
            int s = number(0, 1);
            same("schedule " + s, () -> net.schedule(s), () -> due.schedule(s));
            same("scheduleWeight " + s, () -> net.scheduleWeight(s), () -> due.scheduleWeight(s));
        } else {
            lookAhead(random.nextInt(calm == 0 ? 11 : 9));
        }
    }

    private void change(int kind) {
        int f = flow();
        int n = node();
        int m = node();
        int k = link();
        switch (kind) {
            case 0: case 1: case 2:
                int slots = calm == 1 ? number(40, 50) : number(1, random.nextInt(3) == 0 ? 50 : 6);
                same("run " + slots, () -> net.run(slots), () -> due.run(slots));
                break;
            case 3: case 4:
                int p = number(1, 100);
                same("inject " + f + " " + p, () -> net.inject(f, p), () -> due.inject(f, p));
                break;
            case 5:
                int r = number(0, 300);
                same("setRate " + f + " " + r, () -> net.setRate(f, r), () -> due.setRate(f, r));
                break;
            case 6:
                int what = number(0, 3);
                int v = number(0, what == 1 ? 50 : what == 2 ? 20 : 1);
                same("set " + what + " " + v, () -> net.set(what, v), () -> due.set(what, v));
                break;
            case 7:
                int b = number(0, random.nextBoolean() ? 200 : 12);
                same("setBudget " + f + " " + b, () -> net.setBudget(f, b), () -> due.setBudget(f, b));
                break;
            case 8:
                int c = number(1, 5);
                same("addLink " + n + " " + m + " " + c, () -> net.addLink(n, m, c), () -> due.addLink(n, m, c));
                break;
            case 9:
                int d = number(1, 5);
                same("setCapacity " + k + " " + d, () -> net.setCapacity(k, d), () -> due.setCapacity(k, d));
                break;
            case 10:
                int o = link();
                boolean on = random.nextBoolean();
                same("setConflict " + k + " " + o + " " + on, () -> net.setConflict(k, o, on) ? 1 : 0,
                    () -> due.setConflict(k, o, on) ? 1 : 0);
                break;
            case 11:
                int rate = number(0, 300);
                int budget = number(0, 200);
                same("addFlow " + n + " " + m + " " + rate + " " + budget,
                    () -> net.addFlow(n, m, rate, budget), () -> due.addFlow(n, m, rate, budget));
                break;
            case 12:
                same("flush " + n + " " + m, () -> net.flush(n, m), () -> due.flush(n, m));
                break;
            default:
                same("resetShadows", net::resetShadows, due::resetShadows);
                break;
        }
    }

    private void history(int kind) {
        if (kind < 5) {
            same("undo", net::undo, due::undo);
        } else if (kind < 7) {
            same("save", net::save, due::save);
        } else if (kind < 8) {
            same("restore", net::restore, due::restore);
        }
        same("undoCount", net::undoCount, due::undoCount);
    }

    private void input() {
        int kind = random.nextInt(6);
        String text = kind == 0 ? text(true) : kind < 3 ? text(false)
            : statement(due.count(0), due.count(1), 1) + ";";
        for (int[] w : words(text)) {
            same("append", () -> net.append(w[0], w[1], w[2], w[3], w[4]), () -> due.append(w[0], w[1], w[2], w[3], w[4]));
        }
        same("errorPosition of " + text, net::errorPosition, due::errorPosition);
        same("load", net::load, due::load);
        if (random.nextInt(2) == 0) {
            int length = random.nextInt(200) - 2;
            same("truncate " + length, () -> net.truncate(length), () -> due.truncate(length));
            same("truncate 0", () -> net.truncate(0), () -> due.truncate(0));
        }
    }

    private void askNet(int kind) {
        int n = node();
        int m = node();
        int k = link();
        int f = flow();
        switch (kind) {
            case 0: case 1:
                int what = number(0, 7);
                same("link " + k + " " + what, () -> net.link(k, what), () -> due.link(k, what));
                break;
            case 2: case 3:
                int part = number(0, 10);
                same("flow " + f + " " + part, () -> net.flow(f, part), () -> due.flow(f, part));
                break;
            case 4:
                int c = number(0, 6);
                same("count " + c, () -> net.count(c), () -> due.count(c));
                same("conflicts " + k, () -> net.conflicts(k), () -> due.conflicts(k));
                break;
            case 5:
                same("hops " + n + " " + m, () -> net.hops(n, m), () -> due.hops(n, m));
                break;
            case 6:
                same("overloaded", net::overloaded, due::overloaded);
                break;
            default:
                same("maxFlow " + n + " " + m, () -> net.maxFlow(n, m), () -> due.maxFlow(n, m));
                same("cutSide " + n + " " + m, () -> net.cutSide(n, m), () -> due.cutSide(n, m));
                break;
        }
    }

    private void askQueues(int kind) {
        int n = node();
        int m = node();
        int f = flow();
        switch (kind) {
            case 0:
                same("queue " + n + " " + m, () -> net.queue(n, m), () -> due.queue(n, m));
                break;
            case 1:
                same("shadow " + n + " " + m, () -> net.shadow(n, m), () -> due.shadow(n, m));
                break;
            case 2:
                boolean empty = due.total(1) == 0;
                int a = empty ? n : due.fullest() / 100;
                int b = empty ? m : due.fullest() % 100;
                int index = number(0, empty ? 1 : due.queue(a, b));
                int part = number(0, 3);
                same("packet " + a + " " + b + " " + index + " " + part,
                    () -> net.packet(a, b, index, part), () -> due.packet(a, b, index, part));
                same("packet " + n + " " + m + " 0 " + part,
                    () -> net.packet(n, m, 0, part), () -> due.packet(n, m, 0, part));
                break;
            case 3:
                int what = number(0, 5);
                same("total " + what, () -> net.total(what), () -> due.total(what));
                break;
            case 4:
                same("fullest", net::fullest, due::fullest);
                break;
            case 5:
                same("urgent", net::urgent, due::urgent);
                break;
            default:
                boolean below = random.nextBoolean();
                same("meanDelay " + f + " " + below, () -> net.meanDelay(f, below), () -> due.meanDelay(f, below));
                break;
        }
    }

    private void lookAhead(int kind) {
        int f = flow();
        int slots = number(1, random.nextInt(4) == 0 ? 50 : 9);
        if (kind > 4 && kind < 9 && dearCalls-- <= 0) {
            return;
        }
        switch (kind) {
            case 0:
                int what = number(0, 5);
                same("forecast " + slots + " " + what, () -> net.forecast(slots, what), () -> due.forecast(slots, what));
                break;
            case 1: case 2:
                int part = number(0, 10);
                same("forecastFlow " + f + " " + slots + " " + part,
                    () -> net.forecastFlow(f, slots, part), () -> due.forecastFlow(f, slots, part));
                break;
            case 3: case 4:
                int p = number(1, random.nextBoolean() ? 500 : 40);
                same("slotsToFull " + slots + " " + p, () -> net.slotsToFull(slots, p), () -> due.slotsToFull(slots, p));
                break;
            case 5:
                same("bestBias " + slots, () -> net.bestBias(slots), () -> due.bestBias(slots));
                break;
            case 6:
                same("bestExcess " + slots, () -> net.bestExcess(slots), () -> due.bestExcess(slots));
                break;
            case 7:
                same("bestSettings " + slots, () -> net.bestSettings(slots), () -> due.bestSettings(slots));
                break;
            case 8:
                int s = number(1, 4);
                same("sustainable " + f + " " + s, () -> net.sustainable(f, s), () -> due.sustainable(f, s));
                break;
            default:
                break;
        }
    }

    private static String answer(Answer call) {
        try {
            return Long.toString(call.get());
        } catch (RuntimeException e) {
            return e.getClass().getSimpleName();
        }
    }

    private void same(String name, Answer got, Answer want) {
        if (made >= MAX_CALLS) {
            return;
        }
        made++;
        calls.add(name);
        String a = answer(got);
        String b = answer(want);
        if (!a.equals(b)) {
            throw new IllegalStateException("call " + calls.size() + " " + name + " answered " + a + ", due is " + b
                + "; setup " + setupText + "; calls " + calls);
        }
    }
}
