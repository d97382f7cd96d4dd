/** Promises 1 to 5. */
public final class InputTest {
    public static void main(String[] args) {
        newObject();
        appendBytes();
        appendLimit();
        truncate();
        errorPositions();
        cutStatements();
        tooManyStatements();
        loadReplacesAll();
        loadOfBadText();
        Expect.end("InputTest");
    }

    private static void newObject() {
        PressureNet net = new PressureNet();
        int[] counts = {3, 2, 1, 0, 10, 0, 0};
        for (int what = 0; what < counts.length; what++) {
            Expect.same("new count " + what, net.count(what), counts[what]);
        }
        int[][] links = {{0, 1, 1, 0}, {1, 2, 1, 0}};
        for (int k = 0; k < 2; k++) {
            for (int what = 0; what < 4; what++) {
                Expect.same("new link " + k + " " + what, net.link(k, what), links[k][what]);
            }
            Expect.same("new conflicts", net.conflicts(k), 0);
        }
        int[] flow = {0, 2, 50, 0, 0, 0, 0, 0, 0, 0, 0};
        for (int what = 0; what < flow.length; what++) {
            Expect.same("new flow " + what, net.flow(0, what), flow[what]);
        }
        for (int what = 0; what < 6; what++) {
            Expect.same("new total " + what, net.total(what), 0);
        }
        Expect.same("new undoCount", net.undoCount(), 0);
        Expect.same("new buffer", net.append(0, 0, 0, 0, 0), 0);
        Expect.same("new errorPosition", net.errorPosition(), 0);
        Expect.fails("new restore", Expect.STATE, net::restore);
        Expect.fails("new undo", Expect.STATE, net::undo);
    }

    private static void appendBytes() {
        PressureNet net = new PressureNet();
        // "net 3", the bytes between zeros and over all five parameters
        Expect.same("append with zeros", net.append(0x6e, 0x00650000, 0x74000000, 0x00002000, 0x33000000), 5);
        Expect.same("text with zeros", net.errorPosition(), PressureNet.NONE);
        Expect.same("append of nothing", net.append(0, 0, 0, 0, 0), 5);
        Expect.same("append of great bytes", net.append(0xff800001, 0x80000000, 0, 0, -1), 5 + 3 + 1 + 4);
        Expect.same("a great byte is no token of a text", net.errorPosition(), 5);
        PressureNet order = new PressureNet();
        Expect.same("append in order", order.append(0x6e657420, 0x333b6c69, 0x6e6b2030, 0x20322035, 0x3b62b000), 19);
        Expect.same("order of the bytes", order.errorPosition(), 17);
        order.truncate(16);
        order.load();
        Expect.same("order: from", order.link(0, 0), 0);
        Expect.same("order: to", order.link(0, 1), 2);
        Expect.same("order: capacity", order.link(0, 2), 5);
    }

    private static void appendLimit() {
        PressureNet net = new PressureNet();
        for (int i = 1; i <= 34; i++) {
            Expect.same("append 20", net.append(-1, -1, -1, -1, -1), 20 * i);
        }
        Expect.same("append 11", net.append(-1, -1, 0x01010100, 0, 0), 691);
        Expect.fails("append of 10 at 691", Expect.STATE, () -> net.append(-1, -1, 0x0101, 0, 0));
        Expect.same("nothing was appended", net.append(0, 0, 0, 0, 0), 691);
        Expect.same("append of 9 at 691", net.append(-1, -1, 0, 0, 1), 700);
        Expect.fails("append of 1 at 700", Expect.STATE, () -> net.append(0, 0, 0, 0, 1));
        Expect.same("append of 0 at 700", net.append(0, 0, 0, 0, 0), 700);
    }

    private static void truncate() {
        PressureNet net = new PressureNet();
        Expect.append(net, "net 2;bias 3");
        Expect.fails("truncate -1", Expect.ARGUMENT, () -> net.truncate(-1));
        Expect.fails("truncate 13", Expect.ARGUMENT, () -> net.truncate(13));
        Expect.fails("truncate least", Expect.ARGUMENT, () -> net.truncate(Integer.MIN_VALUE));
        Expect.same("still 12", net.append(0, 0, 0, 0, 0), 12);
        Expect.same("truncate 12", net.truncate(12), 12);
        Expect.same("truncate 11", net.truncate(11), 11);
        Expect.same("ends too early", net.errorPosition(), 11);
        Expect.same("truncate 5", net.truncate(5), 5);
        Expect.same("valid", net.errorPosition(), -1);
        Expect.fails("not longer again", Expect.ARGUMENT, () -> net.truncate(6));
        Expect.same("truncate 0", net.truncate(0), 0);
    }

    private static void position(String text, int due) {
        PressureNet net = new PressureNet();
        Expect.same("length of '" + text + "'", Expect.append(net, text), text.length());
        Expect.same("error position of '" + text + "'", net.errorPosition(), due);
        Expect.same("again", net.errorPosition(), due);
        Expect.same("it is kept", net.append(0, 0, 0, 0, 0), text.length());
        Expect.same("nothing changes", net.count(0), 3);
    }

    private static void errorPositions() {
        position("", 0);
        position("   ", 3);
        position("net", 3);
        position("net  ", 5);
        position("net 2", -1);
        position("  net   10  ", -1);
        position("net 1", 4);
        position("net 0", 4);
        position("net 11", 4);
        position("net 002", -1);
        position("net 0002", 4);
        position("net 9999999999999", 4);
        position("net3", -1);
        position("nett 3", 0);
        position("ne t 3", 0);
        position("3", 0);
        position(";", 0);
        position("link 0 1 1", 0);
        position("net net", 4);
        position("net\t3", 3);
        position("net 3\u00c8", 5);
        position("net 3;", 6);
        position("net 3 ;   ", 10);
        position("net 3;;", 6);
        position("net 3,bias 1", 5);
        position("net 3 bias 1", 6);
        position("net 3;net 3", 6);
        position("net 3;nodes", 6);
        position("net 3;Bias 1", 6);
        position("net 3;link", 10);
        position("net 3;link 3 1 1", 11);
        position("net 3;link 0 3 1", 13);
        position("net 3;link 0 0 1", 13);
        position("net 3;link 0 1 0", 15);
        position("net 3;link 0 1 6", 15);
        position("net 3;link 0 1 0005", 15);
        position("net 3;link 0 1 x", 15);
        position("net 3;link 0 1 5 1", 17);
        position("net 3;link 0 1 5;link 1 0 1", -1);
        position("net 3;link 0 1 5;link 0 1 1", 24);
        position("net3;link0 1 5", -1);
        position("net 3;link 01 1", 14);
        position("net 3 ; link 0 001 5 ", -1);
        String two = "net 3;link 0 1 1;link 1 2 1;";
        position(two, 28);
        position("net 3;link 0 1 1;conflict 0 1", 17);
        position(two + "conflict 0 1", -1);
        position(two + "conflict 1 0", -1);
        position(two + "conflict 0 0", 39);
        position(two + "conflict 2 0", 37);
        position(two + "conflict 0 2", 39);
        position(two + "conflict 0", 38);
        position(two + "conflict 0 1;conflict 0 1", 52);
        position(two + "conflict 0 1;conflict 1 0", 52);
        position(two + "flow 0 2 300", -1);
        position(two + "flow 0 2 301", 37);
        position(two + "flow 0 2 1000", 37);
        position(two + "flow 3 2 5", 33);
        position(two + "flow 0 3 5", 35);
        position(two + "flow 0 0 5", 35);
        position(two + "flow 0 2", 36);
        position(two + "flow 0 2 300 budget 200", -1);
        position(two + "flow 0 2 300 budget 0;flow 0 2 300", -1);
        position(two + "flow 0 2 300 budget 201", 48);
        position(two + "flow 0 2 300 budget", 47);
        position(two + "flow 0 2 30 budgets 2", 40);
        position(two + "flow 0 2 30 budget 2 budget 2", 49);
        position(two + "budget 2", 28);
        position("net 2;mode plain", -1);
        position("net 2;mode shadow;excess 50;bias 20;scheduler exact", -1);
        position("net 2;mode greedy", 11);
        position("net 2;mode 0", 11);
        position("net 2;mode", 10);
        position("net 2;mode plain;mode shadow", 17);
        position("net 2;excess 51", 13);
        position("net 2;excess 5;excess 5", 15);
        position("net 2;bias 21", 11);
        position("net 2;bias 0;bias 0", 13);
        position("net 2;scheduler greedy", -1);
        position("net 2;scheduler plain", 16);
        position("net 2;scheduler exact;scheduler exact", 22);
    }

    /** Each statement ends behind each of its tokens, and another one follows or not. */
    private static void cutStatements() {
        String head = "net 3;link 0 1 1;link 1 2 1";
        String[] statements = {"link 2 0 5", "conflict 0 1", "flow 0 2 30", "mode plain", "excess 3", "bias 3",
            "scheduler exact", "flow 0 2 30 budget 9"};
        for (String statement : statements) {
            String[] tokens = statement.split(" ");
            StringBuilder text = new StringBuilder(head).append(';');
            for (int k = 0; k < tokens.length - 1; k++) {
                text.append(tokens[k]).append(' ');
                boolean whole = statement.startsWith("flow") && k == 3;
                position(text.toString(), whole ? -1 : text.length());
                position(text + ";link 2 1 1", whole ? -1 : text.length());
                position(text + "net", text.length());
                position(text + "*", text.length());
            }
            text.append(tokens[tokens.length - 1]);
            position(text.toString(), -1);
            position(text + ";link 2 1 1", -1);
        }
        String[] near = {"mink 0 1 1", "link", "linkz 2 0 1", "zlink 2 0 1", "linl 2 0 1", "ling 2 0 1", "lin 2 0 1"};
        for (String word : near) {
            position(head + ";" + word, word.equals("link") ? head.length() + 5 : head.length() + 1);
        }
        position("bet 3", 0);
        position("netz 3", 0);
        position("neta 3", 0);
        position("ne 3", 0);
        position("net`3", 3);
        position("net{3", 3);
        position("net /3", 4);
        position("net :3", 4);
        position("net 3/", 5);
        position("net 3:", 5);
    }

    private static String links(int count) {
        StringBuilder text = new StringBuilder("net 10");
        for (int i = 0; i < count; i++) {
            text.append(";link ").append(i % 10).append(' ').append((i + 1 + i / 10) % 10).append(" 1");
        }
        return text.toString();
    }

    private static void tooManyStatements() {
        String links = links(14);
        position(links, -1);
        position(links + ";link 0 9 1", links.length() + 1);
        position(links + ";link", links.length() + 1);
        StringBuilder flows = new StringBuilder("net 4");
        for (int i = 0; i < 6; i++) {
            flows.append(";flow 0 1 5");
        }
        position(flows.toString(), -1);
        position(flows + ";flow 0 1 5", flows.length() + 1);
        StringBuilder conflicts = new StringBuilder(links(10));
        int told = 0;
        for (int a = 0; a < 10; a++) {
            for (int b = a + 1; b < 10 && told < 40; b++) {
                conflicts.append(";conflict ").append(a).append(' ').append(b);
                told++;
            }
        }
        position(conflicts.toString(), -1);
        position(conflicts + ";conflict 8 9", conflicts.length() + 1);
        position(conflicts + ";bias 3", -1);
    }

    private static void loadReplacesAll() {
        PressureNet net = new PressureNet();
        net.set(1, 20);
        net.set(2, 7);
        net.inject(0, 40);
        net.run(9);
        net.save();
        net.set(3, 1);
        Expect.append(net, "net 4;link 2 3 5;link 3 2 4;link 0 1 2;conflict 2 0;flow 2 3 150 budget 9;mode shadow");
        Expect.same("load", net.load(), 3);
        int[] counts = {4, 3, 1, 1, 10, 0, 0};
        for (int what = 0; what < counts.length; what++) {
            Expect.same("loaded count " + what, net.count(what), counts[what]);
        }
        int[] link = {2, 3, 5, 0, -1, 0, 0, 0};
        for (int what = 0; what < link.length; what++) {
            Expect.same("loaded link " + what, net.link(0, what), link[what]);
        }
        int[] flow = {2, 3, 150, 9, 0, 0, 0, 0, 0, 0, 0};
        for (int what = 0; what < flow.length; what++) {
            Expect.same("loaded flow " + what, net.flow(0, what), flow[what]);
        }
        Expect.same("conflicts of 0", net.conflicts(0), 4);
        Expect.same("conflicts of 1", net.conflicts(1), 0);
        Expect.same("conflicts of 2", net.conflicts(2), 1);
        for (int what = 0; what < 6; what++) {
            Expect.same("loaded total " + what, net.total(what), 0);
        }
        Expect.same("hops", net.hops(2, 3), 1);
        Expect.same("no hops", net.hops(0, 2), 4);
        Expect.same("no history", net.undoCount(), 0);
        Expect.fails("nothing to undo", Expect.STATE, net::undo);
        Expect.fails("no saved copy", Expect.STATE, net::restore);
        Expect.same("the buffer is empty", net.append(0, 0, 0, 0, 0), 0);
        Expect.fails("load of nothing", Expect.ARGUMENT, net::load);
        Expect.append(net, "net 2;excess 0;bias 20;scheduler exact");
        Expect.same("load without links", net.load(), 0);
        Expect.same("no flows", net.count(2), 0);
        Expect.same("mode", net.count(3), 0);
        Expect.same("excess", net.count(4), 0);
        Expect.same("bias", net.count(5), 20);
        Expect.same("scheduler", net.count(6), 1);
        Expect.same("run without flows", net.run(50), 0);
    }

    private static void loadOfBadText() {
        PressureNet net = new PressureNet();
        net.run(3);
        net.save();
        net.inject(0, 4);
        Expect.append(net, "net 4;link 2 3 6");
        Expect.fails("load of a bad text", Expect.ARGUMENT, net::load);
        Expect.same("the buffer is kept", net.append(0, 0, 0, 0, 0), 16);
        Expect.same("nodes are kept", net.count(0), 3);
        Expect.same("links are kept", net.count(1), 2);
        Expect.same("queues are kept", net.queue(0, 2), 4);
        Expect.same("history is kept", net.undoCount(), 2);
        Expect.same("the saved copy is kept", net.restore(), 3);
        net.truncate(5);
        Expect.same("load of what is left", net.load(), 0);
    }
}
