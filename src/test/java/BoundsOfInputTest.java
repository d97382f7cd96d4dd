/** Boundary cases of promises 1 to 5 and of section 6: one method for each sentence that names one. */
public final class BoundsOfInputTest extends Bounds {
    private static final String TWO = "net 3;link 0 1 1;link 1 2 1;";

    public static void main(String[] args) {
        newBufferIsEmpty();
        bytesOfValueZeroAreSkipped();
        mostSignificantByteFirst();
        bufferOf700Bytes();
        nothingIsAppendedThen();
        truncateLength();
        truncatedBytesAreGone();
        noneIfValid();
        lengthIfTheTextEndsTooEarly();
        offsetOfTheToken();
        tokensAreMaximalRuns();
        spacesBeforeAndAfterTokens();
        onlySpacesStandBetween();
        threeDigitsAtMost();
        netIsTheFirstAndOnlyThis();
        nodes2To10();
        oneStatementBehindEachSemicolon();
        nodesOfALink();
        capacity1To5();
        secondNodeIsAnother();
        oneLinkFromTheOneToTheOther();
        links14AtMost();
        conflictBehindTwoLinks();
        linksToldBefore();
        conflictOfTheSameLink();
        conflictToldAlready();
        conflicts40AtMost();
        nodesOfAFlow();
        rate0To300();
        budget0To200();
        flows6AtMost();
        settingsInTheirRange();
        settingsAreSet();
        settingsOnceAtMost();
        settingsLeftOutAreTheFirstOnes();
        loadRefused();
        loadOfTheGreatest();
        loadOfTheLeast();
        loadLeavesNothing();
        loadOverAFullNet();
        Expect.end("BoundsOfInputTest");
    }

    private static int position(String text) {
        PressureNet net = new PressureNet();
        Expect.same("length of '" + text + "'", Expect.append(net, text), text.length());
        int first = net.errorPosition();
        Expect.same("asked again, '" + text + "'", net.errorPosition(), first);
        return first;
    }

    private static void valid(String text) {
        Expect.same("'" + text + "' is valid", position(text), PressureNet.NONE);
    }

    /** The token behind the mark | cannot be accepted; what follows it does not matter. */
    private static void wrong(String marked) {
        int due = marked.indexOf('|');
        String text = marked.substring(0, due) + marked.substring(due + 1);
        Expect.same("error of '" + marked + "'", position(text), due);
        Expect.same("error of '" + marked + "' with more", position(text + " ;;;"), due);
    }

    /** The text ends too early, so that its error position is its length. */
    private static void tooShort(String text) {
        Expect.same("error of '" + text + "'", position(text), text.length());
        Expect.same("error of '" + text + "  '", position(text + "  "), text.length() + 2);
    }

    private static void newBufferIsEmpty() {
        PressureNet net = new PressureNet();
        Expect.same("length", net.append(0, 0, 0, 0, 0), 0);
        Expect.same("the text ends too early at once", net.errorPosition(), 0);
        NEW.refuses("truncate", ARGUMENT, x -> x.truncate(1));
        NEW.takes("truncate", 0, x -> x.truncate(0));
        NEW.refuses("load", ARGUMENT, PressureNet::load);
    }

    private static void bytesOfValueZeroAreSkipped() {
        for (int at = 0; at < 20; at++) {
            int[] w = new int[5];
            w[at / 4] = 1 << 24 - 8 * (at % 4);
            PressureNet net = new PressureNet();
            Expect.same("byte " + at, net.append(w[0], w[1], w[2], w[3], w[4]), 1);
            w[at / 4] = 255 << 24 - 8 * (at % 4);
            Expect.same("byte 255 at " + at, net.append(w[0], w[1], w[2], w[3], w[4]), 2);
            w[at / 4] = ~w[at / 4];
            Expect.same("others at " + at, net.append(w[0], w[1], w[2], w[3], w[4]), 5);
        }
        PressureNet net = new PressureNet();
        net.append('n', 'e', 't', 0, '3');
        Expect.same("zeros are no gap in the text", net.errorPosition(), PressureNet.NONE);
        BUSY.asks("append of nothing", 12, x -> x.append(0, 0, 0, 0, 0));
    }

    private static void mostSignificantByteFirst() {
        PressureNet net = new PressureNet();
        // "net 10;link 9 8 5;bi", "as 7"
        net.append(0x6e657420, 0x31303b6c, 0x696e6b20, 0x39203820, 0x353b6269);
        Expect.same("20 and 4 bytes", net.append(0x61732037, 0, 0, 0, 0), 24);
        Expect.same("load", net.load(), 1);
        Expect.same("nodes", net.count(0), 10);
        Expect.same("from", net.link(0, 0), 9);
        Expect.same("to", net.link(0, 1), 8);
        Expect.same("bias", net.count(5), 7);
    }

    /** As many bytes as told, none of them a part of a text. */
    private static PressureNet filled(int bytes) {
        PressureNet net = new PressureNet();
        for (int i = 0; i < bytes / 20; i++) {
            net.append(-1, -1, -1, -1, -1);
        }
        for (int i = 0; i < bytes % 20; i++) {
            net.append(0, 0, 0, 0, 1);
        }
        return net;
    }

    private static void bufferOf700Bytes() {
        Expect.same("680 and 20", filled(680).append(-1, -1, -1, -1, -1), 700);
        Expect.same("699 and 1", filled(699).append(0, 1, 0, 0, 0), 700);
        Expect.same("700 and 0", filled(700).append(0, 0, 0, 0, 0), 700);
        Expect.same("695 and 5 among zeros", filled(695).append(1, 1 << 24, 256, 65536, 255), 700);
        Expect.same("700 are read", filled(700).errorPosition(), 0);
        Expect.same("the same length again", filled(700).truncate(700), 700);
        PressureNet again = filled(700);
        again.truncate(680);
        Expect.same("truncated there is room", again.append(-1, -1, -1, -1, -1), 700);
    }

    private static void nothingIsAppendedThen() {
        new Twins(() -> filled(700)).refuses("1 at 700", STATE, x -> x.append(1, 0, 0, 0, 0));
        new Twins(() -> filled(700)).refuses("the last byte at 700", STATE, x -> x.append(0, 0, 0, 0, 1));
        new Twins(() -> filled(699)).refuses("2 at 699", STATE, x -> x.append(0, 0x00010001, 0, 0, 0));
        new Twins(() -> filled(681)).refuses("20 at 681", STATE, x -> x.append(-1, -1, -1, -1, -1));
        new Twins(() -> filled(690)).refuses("11 at 690", STATE, x -> x.append(-1, -1, 255, 255, 255));
    }

    private static void truncateLength() {
        BUSY.refusesEach("truncate", ARGUMENT, Twins.outside(0, 12), PressureNet::truncate);
        BUSY.asks("truncate to the present length", 12, x -> x.truncate(12));
        BUSY.takes("one byte less", 11, x -> x.truncate(11));
        BUSY.takes("truncate to 0", 0, x -> x.truncate(0));
    }

    private static void truncatedBytesAreGone() {
        PressureNet net = new PressureNet();
        Expect.append(net, "net 3;bias 12");
        net.truncate(12);
        Expect.fails("they do not come back", ARGUMENT, () -> net.truncate(13));
        Expect.same("the next stand behind the rest", Expect.append(net, ";mode shadow"), 24);
        net.load();
        Expect.same("bias", net.count(5), 1);
        Expect.same("mode", net.count(3), 1);
        Expect.append(net, "net 4");
        net.truncate(0);
        Expect.same("nothing is left", net.errorPosition(), 0);
        Expect.append(net, "net 2");
        net.load();
        Expect.same("a new text", net.count(0), 2);
    }

    private static void noneIfValid() {
        valid("net 2");
        valid(TWO + "conflict 0 1;flow 0 2 3 budget 4;flow 2 0 1;mode plain;excess 1;bias 1;scheduler greedy");
        BUSY.asks("a valid text in the buffer", PressureNet.NONE, PressureNet::errorPosition);
    }

    private static void lengthIfTheTextEndsTooEarly() {
        tooShort("");
        tooShort("net");
        tooShort("net 3;");
        String[] parts = {"link 2", "link 2 0", "conflict 0", "flow 0", "flow 0 2", "flow 0 2 5 budget", "mode", "excess",
            "bias", "scheduler", "link", "conflict", "flow"};
        for (String part : parts) {
            tooShort(TWO + part);
        }
        Expect.same("700 bytes end too early", position("net 3;" + " ".repeat(694)), 700);
    }

    private static void offsetOfTheToken() {
        wrong("|a");
        wrong("   |not 3");
        wrong("net    |1");
        wrong("net 3   |,");
        wrong("net 3;   |links 0 1 1");
        wrong(TWO + "flow 0 2 5   |budge 4");
        wrong(TWO + "flow 0 2 5   |4");
        Expect.same("the last of 700 bytes", position("net 3" + " ".repeat(694) + "!"), 699);
    }

    private static void tokensAreMaximalRuns() {
        valid("net3;link0 1 5;link1 0 5;conflict0 1;flow0 1 5budget6;mode shadow;excess0;bias20;scheduler exact");
        wrong("|netnet 3");
        wrong("|ne t 3");
        wrong("|bet 3");
        wrong("|nat 3");
        wrong("|nez 3");
        wrong("net 3;|linkk 0 1 1");
        wrong("net 3;|linkz 0 1 1");
        wrong("net 3;|alink 0 1 1");
        wrong("net 3;|zlink 0 1 1");
        wrong("net 3;|mink 0 1 1");
        wrong("net 3;|lin 0 1 1");
        wrong("net 3;link 01 |1");
        wrong("net 3;link 0 |11");
        wrong("net 3;mode |plainshadow");
        wrong("net 3;mode |plai");
        wrong("net 3;|modeplain");
        wrong("net 2|x");
        wrong("net 2 |2");
        // The signs beside the letters and the digits, and letters of the other case, are none.
        for (char one : new char[] {'`', '{', '@', 'A', 'Z', '[', '/', ':', '-', '+', '.', '_', 1, 127, 128, 255}) {
            wrong("net|" + one + "3");
            wrong("net |" + one + "3");
            wrong("net 3|" + one);
            wrong("net 3;|" + one + "bias 3");
            wrong("net 3;bias |" + one + "3");
        }
    }

    private static void spacesBeforeAndAfterTokens() {
        valid("   net   3   ;   link   0   1   1   ;   link   1   2   1   ;   conflict   0   1   ;   "
            + "flow   0   1   5   budget   6   ;   mode   plain   ;   excess   5   ;   bias   5   ;   scheduler   exact   ");
        valid(" ".repeat(300) + "net" + " ".repeat(300) + "2" + " ".repeat(96));
    }

    private static void onlySpacesStandBetween() {
        for (char one : new char[] {'\t', '\n', '\r', 31, 33, 160}) {
            wrong("|" + one + "net 3");
            wrong("net|" + one + "3");
            wrong("net 3|" + one + ";bias 1");
            wrong("net 3;|" + one + "bias 1");
        }
    }

    private static void threeDigitsAtMost() {
        valid("net 002;link 000 001 005;link 001 000 001;conflict 001 000;flow 000 001 000 budget 000;excess 050;bias 020");
        wrong("net |0002");
        wrong("net |0000000000000000000000000000000000002");
        wrong("net |1000");
        wrong("net |4294967298");
        wrong("net 3;link |0000 1 1");
        wrong("net 3;link 0 |0001 1");
        wrong("net 3;link 0 1 |0001");
        wrong(TWO + "conflict |0000 1");
        wrong(TWO + "conflict 0 |0001");
        wrong(TWO + "flow |0000 1 1");
        wrong(TWO + "flow 0 |0001 1");
        wrong(TWO + "flow 0 1 |0001");
        wrong(TWO + "flow 0 1 1 budget |0001");
        wrong(TWO + "excess |0001");
        wrong(TWO + "bias |0001");
    }

    private static void netIsTheFirstAndOnlyThis() {
        wrong("net 3;|net 3");
        wrong(TWO + "|net 3");
        String[] others = {"link 0 1 1", "conflict 0 1", "flow 0 1 1", "mode plain", "excess 1", "bias 1",
            "scheduler exact", "budget 1", ";", "3"};
        for (String other : others) {
            wrong("|" + other);
        }
    }

    private static void nodes2To10() {
        valid("net 2");
        valid("net 10");
        for (int nodes : Twins.values(0, 1, 11, 12, 99, 100, 258, 999, 1000)) {
            wrong("net |" + nodes);
        }
        wrong("net |-2");
        wrong("net |two");
    }

    private static void oneStatementBehindEachSemicolon() {
        tooShort("net 3;");
        tooShort(TWO);
        wrong("|;net 3");
        wrong("net 3;|;");
        wrong("net 3; |; bias 1");
        wrong("net 3 |bias 1");
        wrong("net 3;bias 1 |mode plain");
        wrong("net 3;link 0 1 1 |link 1 0 1");
        wrong("net 3;bias |;");
    }

    private static void nodesOfALink() {
        valid("net 2;link 0 1 1;link 1 0 1");
        wrong("net 2;link |2 0 1");
        wrong("net 2;link 0 |2 1");
        valid("net 10;link 9 0 1;link 0 9 1");
        wrong("net 10;link |10 0 1");
        wrong("net 10;link 0 |10 1");
        wrong("net 9;link |9 0 1");
        wrong("net 3;link |x 0 1");
        wrong("net 3;link 0 |x 1");
        wrong("net 3;link |- 1");
    }

    private static void capacity1To5() {
        valid("net 3;link 0 1 1");
        valid("net 3;link 0 1 5");
        wrong("net 3;link 0 1 |0");
        wrong("net 3;link 0 1 |6");
        wrong("net 3;link 0 1 |257");
        wrong("net 3;link 0 1 |;");
    }

    private static void secondNodeIsAnother() {
        wrong("net 3;link 0 |0 1");
        wrong("net 3;link 2 |002 1");
        wrong("net 3;flow 0 |0 1");
        wrong("net 3;flow 2 |2 1");
    }

    private static void oneLinkFromTheOneToTheOther() {
        valid("net 3;link 0 1 1;link 1 0 1;link 0 2 1;link 2 1 1");
        wrong("net 3;link 0 1 1;link 0 |1 1");
        wrong("net 3;link 0 1 1;link 1 0 1;link 0 |01 5");
        wrong("net 3;link 0 1 1;link 1 0 1;link 1 |0 9");
    }

    private static String links(int count) {
        StringBuilder text = new StringBuilder("net 10");
        for (int i = 0; i < count; i++) {
            text.append(";link ").append(i % 10).append(' ').append((i + 1 + i / 10) % 10).append(" 1");
        }
        return text.toString();
    }

    private static void links14AtMost() {
        valid(links(13));
        valid(links(14));
        wrong(links(14) + ";|link 9 8 1");
        wrong(links(14) + "; |link");
        wrong(links(14) + ";conflict 0 1;|link 9 8 1");
        valid(links(14) + ";conflict 0 13;conflict 13 1");
        wrong(links(14) + ";conflict |14 0");
    }

    private static void conflictBehindTwoLinks() {
        wrong("net 3;|conflict 0 1");
        wrong("net 3;link 0 1 1;|conflict 0 1");
        wrong("net 3;link 0 1 1;|conflict");
        wrong("net 3;link 0 1 1;|conflict 0 1;link 1 2 1");
        valid("net 3;link 0 1 1;link 1 2 1;conflict 0 1");
    }

    private static void linksToldBefore() {
        wrong(TWO + "conflict |2 0");
        wrong(TWO + "conflict 0 |2");
        wrong(TWO + "conflict 0 |2;link 2 0 1");
        valid(TWO + "link 2 0 1;conflict 0 2");
        wrong(TWO + "conflict |x 0");
        wrong(TWO + "conflict 0 |;");
    }

    private static void conflictOfTheSameLink() {
        wrong(TWO + "conflict 0 |0");
        wrong(TWO + "conflict 1 |1");
    }

    private static void conflictToldAlready() {
        wrong(TWO + "conflict 0 1;conflict 0 |1");
        wrong(TWO + "conflict 0 1;conflict 1 |0");
        wrong(TWO + "conflict 1 0;bias 3;conflict 0 |1");
        valid(TWO + "link 2 0 1;conflict 0 1;conflict 1 2;conflict 2 0");
    }

    private static String conflicts(int count) {
        StringBuilder text = new StringBuilder(links(10));
        int told = 0;
        for (int a = 0; a < 10; a++) {
            for (int b = a + 1; b < 10 && told < count; b++) {
                text.append(";conflict ").append(a).append(' ').append(b);
                told++;
            }
        }
        return text.toString();
    }

    private static void conflicts40AtMost() {
        valid(conflicts(39));
        valid(conflicts(40));
        wrong(conflicts(40) + ";|conflict 8 9");
        wrong(conflicts(40) + ";bias 1;|conflict");
        valid(conflicts(40) + ";link 0 9 1;bias 1");
    }

    private static void nodesOfAFlow() {
        valid("net 2;flow 0 1 1;flow 1 0 1;flow 0 1 1");
        wrong("net 2;flow |2 0 1");
        wrong("net 2;flow 0 |2 1");
        valid("net 10;flow 9 0 1;flow 0 9 1");
        wrong("net 10;flow |10 0 1");
        wrong("net 10;flow 0 |10 1");
    }

    private static void rate0To300() {
        valid("net 3;flow 0 1 0");
        valid("net 3;flow 0 1 300");
        wrong("net 3;flow 0 1 |301");
        wrong("net 3;flow 0 1 |999");
        wrong("net 3;flow 0 1 |-1");
        wrong("net 3;flow 0 1 |budget 3");
    }

    private static void budget0To200() {
        valid("net 3;flow 0 1 5 budget 0");
        valid("net 3;flow 0 1 5 budget 200");
        wrong("net 3;flow 0 1 5 budget |201");
        wrong("net 3;flow 0 1 5 budget |999");
        wrong("net 3;flow 0 1 5 budget |-1");
        wrong("net 3;flow 0 1 5 budget 6 |budget 6");
        wrong("net 3;flow 0 1 5 |7");
        wrong("net 3;|budget 3");
        Expect.same("none is 0", Expect.net("net 3;flow 0 1 5").flow(0, 3), 0);
        Expect.same("told", Expect.net("net 3;flow 0 1 5 budget 200").flow(0, 3), 200);
        PressureNet two = Expect.net("net 3;flow 0 1 5 budget 9;flow 1 0 7");
        Expect.same("it is that of its own flow", two.flow(0, 3) * 100 + two.flow(1, 3), 900);
    }

    private static void flows6AtMost() {
        StringBuilder text = new StringBuilder("net 3");
        for (int i = 0; i < 6; i++) {
            text.append(i % 2 == 0 ? ";flow 0 1 5" : ";flow 0 1 5 budget 6");
        }
        valid(text.toString());
        wrong(text + ";|flow 1 2 1");
        wrong(text + ";mode plain;|flow");
        valid(text + ";mode plain");
    }

    private static void settingsInTheirRange() {
        valid("net 3;mode plain;excess 0;bias 0;scheduler greedy");
        valid("net 3;mode shadow;excess 50;bias 20;scheduler exact");
        wrong("net 3;mode |greedy");
        wrong("net 3;mode |0");
        wrong("net 3;mode |mode plain");
        wrong("net 3;scheduler |shadow");
        wrong("net 3;scheduler |1");
        wrong("net 3;excess |51");
        wrong("net 3;excess |x");
        wrong("net 3;bias |21");
        wrong("net 3;bias |-1");
    }

    private static void settingsAreSet() {
        String[] words = {"mode plain", "mode shadow", "excess 0", "excess 50", "bias 0", "bias 20", "scheduler greedy",
            "scheduler exact"};
        int[] due = {0, 1, 0, 50, 0, 20, 0, 1};
        for (int i = 0; i < words.length; i++) {
            PressureNet net = Expect.net("net 2;" + words[i]);
            for (int what = 0; what < 4; what++) {
                int first = what == 1 ? 10 : 0;
                Expect.same(words[i] + ", setting " + what, net.count(3 + what), what == i / 2 ? due[i] : first);
            }
        }
    }

    private static void settingsOnceAtMost() {
        String[] settings = {"mode plain", "mode shadow", "excess 0", "excess 10", "bias 0", "bias 7", "scheduler greedy",
            "scheduler exact"};
        for (String setting : settings) {
            String word = setting.substring(0, setting.indexOf(' '));
            for (String second : settings) {
                if (second.startsWith(word)) {
                    wrong("net 3;" + setting + ";|" + second);
                    wrong("net 3;" + setting + ";flow 0 1 5;|" + second);
                } else {
                    valid("net 3;" + setting + ";" + second);
                    wrong("net 3;" + setting + ";" + second + ";|" + setting);
                }
            }
        }
    }

    private static void settingsLeftOutAreTheFirstOnes() {
        PressureNet net = Expect.net("net 3;mode shadow;excess 50;bias 20;scheduler exact");
        Expect.append(net, "net 4");
        net.load();
        int[] due = {4, 0, 0, 0, 10, 0, 0};
        for (int what = 0; what < due.length; what++) {
            Expect.same("count " + what, net.count(what), due[what]);
        }
    }

    private static PressureNet busyWith(String text) {
        PressureNet net = Twins.busy();
        net.truncate(0);
        Expect.append(net, text);
        return net;
    }

    private static void loadRefused() {
        String[] bad = {"", " ", "net 3;", "net 11", "net 3;link 0 1 6", "net 4;link 2 1 1;flow 2 1 3;bias 21"};
        for (String text : bad) {
            new Twins(() -> busyWith(text)).refuses("load of '" + text + "'", ARGUMENT, PressureNet::load);
        }
    }

    private static void loadOfTheGreatest() {
        PressureNet net = new PressureNet();
        StringBuilder text = new StringBuilder(links(14)).append(";conflict 0 13");
        for (int i = 0; i < 6; i++) {
            text.append(";flow 9 ").append(i).append(" 300 budget 200");
        }
        text.append(";mode shadow;excess 50;bias 20;scheduler exact");
        text.append(" ".repeat(700 - text.length()));
        Expect.same("700 bytes", Expect.append(net, text.toString()), 700);
        Expect.same("load", net.load(), 14);
        int[] due = {10, 14, 6, 1, 50, 20, 1};
        for (int what = 0; what < due.length; what++) {
            Expect.same("count " + what, net.count(what), due[what]);
        }
        Expect.same("the last link", net.link(13, 0) * 10 + net.link(13, 1), 35);
        Expect.same("its conflict", net.conflicts(13), 1);
        Expect.same("the conflict of the other", net.conflicts(0), 1 << 13);
        Expect.same("the last flow", net.flow(5, 1), 5);
        Expect.same("rate", net.flow(5, 2), 300);
        Expect.same("budget", net.flow(5, 3), 200);
        Expect.same("the buffer is empty", net.append(0, 0, 0, 0, 0), 0);
    }

    private static void loadOfTheLeast() {
        PressureNet net = busyWith("net 2");
        Expect.same("no links", net.load(), 0);
        Expect.alike("nothing but two nodes", Twins.state(net), Twins.state(Expect.net("net 2")));
        Expect.same("links", net.count(1), 0);
        Expect.same("flows", net.count(2), 0);
        Expect.fails("link 0", INDEX, () -> net.link(0, 0));
        Expect.fails("flow 0", INDEX, () -> net.flow(0, 0));
        Expect.fails("node 2", INDEX, () -> net.hops(0, 2));
    }

    private static void loadLeavesNothing() {
        String text = "net 4;link 3 0 1;link 0 1 2;flow 0 3 120;flow 1 0 30";
        PressureNet net = busyWith(text);
        net.load();
        Expect.alike("as if new", Twins.state(net), Twins.state(Expect.net(text)));
        Expect.same("no undo history", net.undoCount(), 0);
        Expect.fails("nothing to undo", STATE, net::undo);
        Expect.fails("no saved copy", STATE, net::restore);
        Expect.same("the buffer is empty", net.append(0, 0, 0, 0, 0), 0);
        Expect.fails("a second load", ARGUMENT, net::load);
        net.run(1);
        PressureNet fresh = Expect.net(text);
        fresh.run(1);
        Expect.alike("as if new behind a slot", Twins.state(net), Twins.state(fresh));
    }

    /** All 500 packets find room again, also those whose place was given up in an odd order. */
    private static void loadOverAFullNet() {
        String text = "net 3;flow 0 2 0;flow 1 2 0";
        for (int kind = 0; kind < 3; kind++) {
            PressureNet net = Twins.full();
            if (kind > 0) {
                net.flush(2, 9);
                net.inject(5, 30);
            }
            if (kind > 1) {
                net.setBudget(1, 1);
                net.run(1);
            }
            Expect.append(net, text);
            net.load();
            Expect.same("no packets", net.total(1), 0);
            for (int i = 0; i < 5; i++) {
                Expect.same("room for 100", net.inject(i % 2, 100), 100);
            }
            Expect.same("no room", net.inject(0, 1), 0);
            for (int i = 0; i < 300; i += 2) {
                Expect.same("packet " + i, net.packet(0, 2, i, 3), 1);
            }
            for (int i = 0; i < 200; i += 2) {
                Expect.same("packet " + i, net.packet(1, 2, i, 3), 2);
            }
        }
    }
}
