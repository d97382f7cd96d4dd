import java.util.NoSuchElementException;

/** What the tests share: comparing answers, and setup texts. */
final class Expect {
    interface Call {
        long get();
    }

    static final Class<? extends RuntimeException> INDEX = IndexOutOfBoundsException.class;
    static final Class<? extends RuntimeException> ARGUMENT = IllegalArgumentException.class;
    static final Class<? extends RuntimeException> STATE = IllegalStateException.class;
    static final Class<? extends RuntimeException> ELEMENT = NoSuchElementException.class;

    private static int checks = 0;
    private static int wrong = 0;

    private Expect() {
    }

    static void same(String what, long got, long want) {
        checks++;
        if (got != want) {
            wrong++;
            System.out.println(what + " answered " + got + ", due is " + want);
        }
    }

    static void alike(String what, String got, String want) {
        checks++;
        if (!got.equals(want)) {
            wrong++;
            System.out.println(what + " shows\n" + got + "\ndue is\n" + want);
        }
    }

    static void fails(String what, Class<? extends RuntimeException> due, Call call) {
        checks++;
        try {
            long got = call.get();
            wrong++;
            System.out.println(what + " answered " + got + ", due is " + due.getSimpleName());
        } catch (RuntimeException e) {
            if (e.getClass() != due) {
                wrong++;
                System.out.println(what + " threw " + e + ", due is " + due.getSimpleName());
            }
        }
    }

    static void end(String test) {
        System.out.println(test + ": " + checks + " checks, " + wrong + " wrong");
        if (wrong > 0 || checks == 0) {
            System.exit(1);
        }
    }

    static int append(PressureNet net, String text) {
        int length = net.append(0, 0, 0, 0, 0);
        for (int[] w : ModelTest.words(text)) {
            length = net.append(w[0], w[1], w[2], w[3], w[4]);
        }
        return length;
    }

    static PressureNet net(String text) {
        PressureNet net = new PressureNet();
        append(net, text);
        net.load();
        return net;
    }
}
